/-! the methods as plain functions over the small heap: written by program out of the bytecode -/
def FU : Nat := 3000
def f_X0_init (h : MH) (x0 : Nat) : Option MH :=
  (nA h 0 (64, .inl (fun _ => 0))).bind fun h1 =>
  (hP h1 0 x0 0 (.ref (h.length))).bind fun h2 =>
  some h2
def f_X0_copyFrom (h : MH) (x0 : Nat) (x1 : Nat) : Option MH :=
  (hI h 0 x1 1).bind fun v1 =>
  (hP h 0 x0 1 (.int v1)).bind fun h2 =>
  (hR h2 0 x1 0).bind fun v3 =>
  (hR h2 0 x0 0).bind fun v4 =>
  (cpA h2 v3 (0 : Int32) v4 (0 : Int32) (64 : Int32)).bind fun h5 =>
  some h5
def f_X0_enter (h : MH) (x0 : Nat) (x1 : Int32) (x2 : Int32) (x3 : Int32) (x4 : Int32) : Option MH :=
  (hR h 0 x0 0).bind fun v1 =>
  (hR h 0 x0 0).bind fun v2 =>
  (cpA h v1 (0 : Int32) v2 (4 : Int32) (60 : Int32)).bind fun h3 =>
  (hR h3 0 x0 0).bind fun v4 =>
  (sI h3 v4 (0 : Int32) x1).bind fun h5 =>
  (hR h5 0 x0 0).bind fun v6 =>
  (sI h5 v6 (1 : Int32) x2).bind fun h7 =>
  (hR h7 0 x0 0).bind fun v8 =>
  (sI h7 v8 (2 : Int32) x3).bind fun h9 =>
  (hR h9 0 x0 0).bind fun v10 =>
  (sI h9 v10 (3 : Int32) x4).bind fun h11 =>
  (hI h11 0 x0 1).bind fun v12 =>
  (hP h11 0 x0 1 (.int (mmin (v12 + (1 : Int32)) (16 : Int32)))).bind fun h13 =>
  some h13
def f_X0_numberAt (h : MH) (x0 : Nat) (x1 : Int32) (x2 : Int32) : Option Int32 :=
  (hR h 0 x0 0).bind fun v1 =>
  (aI h v1 ((x1 * (4 : Int32)) + x2)).bind fun v2 =>
  some v2
def b_X0_removeRail_43 (rec4 : MH → Nat → Int32 → Int32 → Int32 → Option (Int32 × MH)) (h : MH) (x0 : Nat) (x1 : Int32) (x2 : Int32) (x3 : Int32) : Option (Int32 × MH) :=
  rec4 h x0 x1 x2 (x3 + (1 : Int32))
def b_X0_removeRail_4 (rec4 : MH → Nat → Int32 → Int32 → Int32 → Option (Int32 × MH)) (h : MH) (x0 : Nat) (x1 : Int32) (x2 : Int32) (x3 : Int32) : Option (Int32 × MH) :=
  (hI h 0 x0 1).bind fun v1 =>
  if v1 ≤ x3 then
    ((hI h 0 x0 1).bind fun v2 =>
    (some (v2 - x2)).bind fun v3 =>
    (hP h 0 x0 1 (.int x2)).bind fun h4 =>
    some (v3, h4))
  else
    ((vcall h 0 x0 (f_X0_numberAt h x0 x3 (1 : Int32))).bind fun v5 =>
    if v5 = x1 then
      (b_X0_removeRail_43 rec4 h x0 x1 x2 x3)
    else
      ((hR h 0 x0 0).bind fun v6 =>
      (hR h 0 x0 0).bind fun v7 =>
      (cpA h v6 (x3 * (4 : Int32)) v7 (x2 * (4 : Int32)) (4 : Int32)).bind fun h8 =>
      b_X0_removeRail_43 rec4 h8 x0 x1 (x2 + (1 : Int32)) x3))
def f_X0_removeRail_4 : Nat → MH → Nat → Int32 → Int32 → Int32 → Option (Int32 × MH)
  | 0 => fun _ _ _ _ _ => none
  | n + 1 => fun h x0 x1 x2 x3 => b_X0_removeRail_4 (f_X0_removeRail_4 n) h x0 x1 x2 x3
def f_X0_removeRail (h : MH) (x0 : Nat) (x1 : Int32) : Option (Int32 × MH) :=
  f_X0_removeRail_4 FU h x0 x1 (0 : Int32) (0 : Int32)
def f_X1_init (h : MH) (x0 : Nat) : Option MH :=
  (hP h 1 x0 2 (.int (100 : Int32))).bind fun h1 =>
  (nA h1 0 (56, .inl (fun _ => 0))).bind fun h2 =>
  (hP h2 1 x0 4 (.ref (h1.length))).bind fun h3 =>
  (nA h3 0 (8, .inl (fun _ => 0))).bind fun h4 =>
  (hP h4 1 x0 5 (.ref (h3.length))).bind fun h5 =>
  (nA h5 0 (8, .inl (fun _ => 0))).bind fun h6 =>
  (hP h6 1 x0 6 (.ref (h5.length))).bind fun h7 =>
  (nA h7 0 (8, .inl (fun _ => 0))).bind fun h8 =>
  (hP h8 1 x0 7 (.ref (h7.length))).bind fun h9 =>
  (nA h9 0 (8, .inl (fun _ => 0))).bind fun h10 =>
  (hP h10 1 x0 8 (.ref (h9.length))).bind fun h11 =>
  (nA h11 0 (8, .inl (fun _ => 0))).bind fun h12 =>
  (hP h12 1 x0 9 (.ref (h11.length))).bind fun h13 =>
  (nA h13 0 (8, .inl (fun _ => 0))).bind fun h14 =>
  (hP h14 1 x0 10 (.ref (h13.length))).bind fun h15 =>
  (nA h15 0 (8, .inl (fun _ => 0))).bind fun h16 =>
  (hP h16 1 x0 11 (.ref (h15.length))).bind fun h17 =>
  (nA h17 0 (8, .inl (fun _ => 0))).bind fun h18 =>
  (hP h18 1 x0 12 (.ref (h17.length))).bind fun h19 =>
  (nA h19 0 (32, .inl (fun _ => 0))).bind fun h20 =>
  (hP h20 1 x0 13 (.ref (h19.length))).bind fun h21 =>
  (nO h21 0 [.null, .int 0]).bind fun h22 =>
  (f_X0_init h22 (h21.length)).bind fun h23 =>
  (hP h23 1 x0 14 (.ref (h21.length))).bind fun h24 =>
  (nA h24 0 (8, .inl (fun _ => 0))).bind fun h25 =>
  (hP h25 1 x0 15 (.ref (h24.length))).bind fun h26 =>
  (nA h26 0 (8, .inl (fun _ => 0))).bind fun h27 =>
  (hP h27 1 x0 16 (.ref (h26.length))).bind fun h28 =>
  (nA h28 0 (8, .inl (fun _ => 0))).bind fun h29 =>
  (hP h29 1 x0 17 (.ref (h28.length))).bind fun h30 =>
  some h30
def f_X1_copyFrom (h : MH) (x0 : Nat) (x1 : Nat) : Option MH :=
  (hI h 1 x1 0).bind fun v1 =>
  (hP h 1 x0 0 (.int v1)).bind fun h2 =>
  (hI h2 1 x1 1).bind fun v3 =>
  (hP h2 1 x0 1 (.int v3)).bind fun h4 =>
  (hI h4 1 x1 2).bind fun v5 =>
  (hP h4 1 x0 2 (.int v5)).bind fun h6 =>
  (hI h6 1 x1 3).bind fun v7 =>
  (hP h6 1 x0 3 (.int v7)).bind fun h8 =>
  (hR h8 1 x1 4).bind fun v9 =>
  (hR h8 1 x0 4).bind fun v10 =>
  (cpA h8 v9 (0 : Int32) v10 (0 : Int32) (56 : Int32)).bind fun h11 =>
  (hR h11 1 x1 5).bind fun v12 =>
  (hR h11 1 x0 5).bind fun v13 =>
  (cpA h11 v12 (0 : Int32) v13 (0 : Int32) (8 : Int32)).bind fun h14 =>
  (hR h14 1 x1 6).bind fun v15 =>
  (hR h14 1 x0 6).bind fun v16 =>
  (cpA h14 v15 (0 : Int32) v16 (0 : Int32) (8 : Int32)).bind fun h17 =>
  (hR h17 1 x1 7).bind fun v18 =>
  (hR h17 1 x0 7).bind fun v19 =>
  (cpA h17 v18 (0 : Int32) v19 (0 : Int32) (8 : Int32)).bind fun h20 =>
  (hR h20 1 x1 8).bind fun v21 =>
  (hR h20 1 x0 8).bind fun v22 =>
  (cpA h20 v21 (0 : Int32) v22 (0 : Int32) (8 : Int32)).bind fun h23 =>
  (hR h23 1 x1 9).bind fun v24 =>
  (hR h23 1 x0 9).bind fun v25 =>
  (cpA h23 v24 (0 : Int32) v25 (0 : Int32) (8 : Int32)).bind fun h26 =>
  (hR h26 1 x1 10).bind fun v27 =>
  (hR h26 1 x0 10).bind fun v28 =>
  (cpA h26 v27 (0 : Int32) v28 (0 : Int32) (8 : Int32)).bind fun h29 =>
  (hR h29 1 x1 11).bind fun v30 =>
  (hR h29 1 x0 11).bind fun v31 =>
  (cpA h29 v30 (0 : Int32) v31 (0 : Int32) (8 : Int32)).bind fun h32 =>
  (hR h32 1 x1 12).bind fun v33 =>
  (hR h32 1 x0 12).bind fun v34 =>
  (cpA h32 v33 (0 : Int32) v34 (0 : Int32) (8 : Int32)).bind fun h35 =>
  (hR h35 1 x1 13).bind fun v36 =>
  (hR h35 1 x0 13).bind fun v37 =>
  (cpA h35 v36 (0 : Int32) v37 (0 : Int32) (32 : Int32)).bind fun h38 =>
  (hR h38 1 x0 14).bind fun v39 =>
  (hR h38 1 x1 14).bind fun v40 =>
  (vcall h38 0 v39 (f_X0_copyFrom h38 v39 v40)).bind fun h41 =>
  some h41
def b_X1_add_154 (rec154 : MH → Nat → Int32 → Int32 → Option MH) (h : MH) (x0 : Nat) (x5 : Int32) (x7 : Int32) : Option MH :=
  if (4 : Int32) ≤ x7 then
    ((hI h 1 x0 0).bind fun v1 =>
    (hP h 1 x0 0 (.int (v1 + (1 : Int32)))).bind fun h2 =>
    some h2)
  else
    ((hR h 1 x0 13).bind fun v3 =>
    (sI h v3 ((x5 * (4 : Int32)) + x7) (0 : Int32)).bind fun h4 =>
    rec154 h4 x0 x5 (x7 + (1 : Int32)))
def f_X1_add_154 : Nat → MH → Nat → Int32 → Int32 → Option MH
  | 0 => fun _ _ _ _ => none
  | n + 1 => fun h x0 x5 x7 => b_X1_add_154 (f_X1_add_154 n) h x0 x5 x7
def f_X1_add (h : MH) (x0 : Nat) (x1 : Int32) (x2 : Int32) (x3 : Int32) (x4 : Int32) : Option MH :=
  (hI h 1 x0 0).bind fun v5 =>
  (some (v5 * (7 : Int32))).bind fun v6 =>
  (hR h 1 x0 4).bind fun v7 =>
  (sI h v7 (v6 + (0 : Int32)) x1).bind fun h8 =>
  (hR h8 1 x0 4).bind fun v9 =>
  (sI h8 v9 (v6 + (1 : Int32)) x2).bind fun h10 =>
  (hR h10 1 x0 4).bind fun v11 =>
  (sI h10 v11 (v6 + (2 : Int32)) x3).bind fun h12 =>
  (hR h12 1 x0 4).bind fun v13 =>
  (sI h12 v13 (v6 + (3 : Int32)) (90 : Int32)).bind fun h14 =>
  (hR h14 1 x0 4).bind fun v15 =>
  (sI h14 v15 (v6 + (4 : Int32)) (2 : Int32)).bind fun h16 =>
  (hR h16 1 x0 4).bind fun v17 =>
  (sI h16 v17 (v6 + (5 : Int32)) (40 : Int32)).bind fun h18 =>
  (hR h18 1 x0 4).bind fun v19 =>
  (sI h18 v19 (v6 + (6 : Int32)) (2 : Int32)).bind fun h20 =>
  (hR h20 1 x0 5).bind fun v21 =>
  (sI h20 v21 v5 x4).bind fun h22 =>
  (hR h22 1 x0 6).bind fun v23 =>
  (sI h22 v23 v5 (0 : Int32)).bind fun h24 =>
  (hR h24 1 x0 7).bind fun v25 =>
  (sI h24 v25 v5 (0 : Int32)).bind fun h26 =>
  (hR h26 1 x0 8).bind fun v27 =>
  (sI h26 v27 v5 (0 : Int32)).bind fun h28 =>
  (hR h28 1 x0 9).bind fun v29 =>
  (sI h28 v29 v5 (0 : Int32)).bind fun h30 =>
  (hR h30 1 x0 10).bind fun v31 =>
  (sI h30 v31 v5 (0 : Int32)).bind fun h32 =>
  (hR h32 1 x0 11).bind fun v33 =>
  (sI h32 v33 v5 (0 : Int32)).bind fun h34 =>
  (hR h34 1 x0 12).bind fun v35 =>
  (sI h34 v35 v5 (-1 : Int32)).bind fun h36 =>
  f_X1_add_154 FU h36 x0 v5 (0 : Int32)
def f_X1_propertyOf (h : MH) (x0 : Nat) (x1 : Int32) (x2 : Int32) : Option Int32 :=
  (hR h 1 x0 4).bind fun v1 =>
  (aI h v1 ((x1 * (7 : Int32)) + x2)).bind fun v2 =>
  some v2
def b_X1_isWanted_16 (h : MH) (s0 : Int32) : Option Int32 :=
  some (s0 &&& 1)
def f_X1_isWanted (h : MH) (x0 : Nat) (x1 : Int32) : Option Int32 :=
  (hI h 1 x0 3).bind fun v1 =>
  if (v1 &&& ((1 : Int32) <<< (x1 &&& 31))) = 0 then
    (b_X1_isWanted_16 h (0 : Int32))
  else
    (b_X1_isWanted_16 h (1 : Int32))
def b_X1_isDischarged_18 (h : MH) (s0 : Int32) : Option Int32 :=
  some (s0 &&& 1)
def f_X1_isDischarged (h : MH) (x0 : Nat) (x1 : Int32) : Option Int32 :=
  (hR h 1 x0 7).bind fun v1 =>
  (aI h v1 x1).bind fun v2 =>
  (hI h 1 x0 2).bind fun v3 =>
  if v3 < v2 then
    (b_X1_isDischarged_18 h (0 : Int32))
  else
    (b_X1_isDischarged_18 h (1 : Int32))
def b_X1_hasFlag_24 (h : MH) (s0 : Int32) : Option Int32 :=
  some (s0 &&& 1)
def b_X1_hasFlag_64 (h : MH) (s0 : Int32) : Option Int32 :=
  some (s0 &&& 1)
def f_X1_hasFlag (h : MH) (x0 : Nat) (x1 : Int32) : Option Int32 :=
  (hR h 1 x0 8).bind fun v1 =>
  (aI h v1 x1).bind fun v2 =>
  if v2 = 0 then
    ((some (x1 * (7 : Int32))).bind fun v3 =>
    (hR h 1 x0 7).bind fun v4 =>
    (aI h v4 x1).bind fun v5 =>
    (hR h 1 x0 4).bind fun v6 =>
    (aI h v6 (v3 + (0 : Int32))).bind fun v7 =>
    (hR h 1 x0 4).bind fun v8 =>
    (aI h v8 (v3 + (3 : Int32))).bind fun v9 =>
    if (v5 * (100 : Int32)) < (v7 * v9) then
      (b_X1_hasFlag_64 h (0 : Int32))
    else
      (b_X1_hasFlag_64 h (1 : Int32)))
  else
    ((hR h 1 x0 8).bind fun v10 =>
    (aI h v10 x1).bind fun v11 =>
    if v11 = (2 : Int32) then
      (b_X1_hasFlag_24 h (1 : Int32))
    else
      (b_X1_hasFlag_24 h (0 : Int32)))
def b_X1_withFollowers_29 (h : MH) (rec4 : Nat → Int32 → Int32 → Option Int32) (x0 : Nat) (x2 : Int32) (x3 : Int32) : Option Int32 :=
  rec4 x0 x2 (x3 + (1 : Int32))
def b_X1_withFollowers_4 (h : MH) (rec4 : Nat → Int32 → Int32 → Option Int32) (x0 : Nat) (x2 : Int32) (x3 : Int32) : Option Int32 :=
  (hI h 1 x0 0).bind fun v1 =>
  if v1 ≤ x3 then
    (some x2)
  else
    ((hR h 1 x0 5).bind fun v2 =>
    (aI h v2 x3).bind fun v3 =>
    if (x2 &&& v3) = 0 then
      (b_X1_withFollowers_29 h rec4 x0 x2 x3)
    else
      ((some (x2 ||| ((1 : Int32) <<< (x3 &&& 31)))).bind fun v4 =>
      b_X1_withFollowers_29 h rec4 x0 v4 x3))
def f_X1_withFollowers_4 (h : MH) : Nat → Nat → Int32 → Int32 → Option Int32
  | 0 => fun _ _ _ => none
  | n + 1 => fun x0 x2 x3 => b_X1_withFollowers_4 h (f_X1_withFollowers_4 h n) x0 x2 x3
def f_X1_withFollowers (h : MH) (x0 : Nat) (x1 : Int32) : Option Int32 :=
  f_X1_withFollowers_4 h FU x0 x1 (0 : Int32)
def b_X1_firstBlameOf_45 (h : MH) (x2 : Int32) : Option Int32 :=
  some x2
def b_X1_firstBlameOf_16 (h : MH) (rec16 : Nat → Int32 → Int32 → Option Int32) (x0 : Nat) (x2 : Int32) (x3 : Int32) : Option Int32 :=
  if (8 : Int32) ≤ x3 then
    (b_X1_firstBlameOf_45 h x2)
  else
    ((hR h 1 x0 12).bind fun v1 =>
    (aI h v1 x2).bind fun v2 =>
    if v2 = (-1 : Int32) then
      (b_X1_firstBlameOf_45 h x2)
    else
      ((hR h 1 x0 12).bind fun v3 =>
      (aI h v3 x2).bind fun v4 =>
      rec16 x0 v4 (x3 + (1 : Int32))))
def f_X1_firstBlameOf_16 (h : MH) : Nat → Nat → Int32 → Int32 → Option Int32
  | 0 => fun _ _ _ => none
  | n + 1 => fun x0 x2 x3 => b_X1_firstBlameOf_16 h (f_X1_firstBlameOf_16 h n) x0 x2 x3
def f_X1_firstBlameOf (h : MH) (x0 : Nat) (x1 : Int32) : Option Int32 :=
  (hR h 1 x0 12).bind fun v5 =>
  (aI h v5 x1).bind fun v6 =>
  if v6 = (-1 : Int32) then
    (some (-1 : Int32))
  else
    (f_X1_firstBlameOf_16 h FU x0 x1 (0 : Int32))
def b_X1_numberOf_98 (h : MH) (s0 : Int32) : Option Int32 :=
  some s0
def b_X1_numberOf_126 (h : MH) (s0 : Int32) : Option Int32 :=
  some s0
def f_X1_numberOf (h : MH) (x0 : Nat) (x1 : Int32) (x2 : Int32) : Option Int32 :=
  if x2 = 7 then
  ((hR h 1 x0 5).bind fun v1 =>
  (aI h v1 x1).bind fun v2 =>
  some v2)
 else
  if x2 = 8 then
  ((vcall h 1 x0 (f_X1_withFollowers h x0 ((1 : Int32) <<< (x1 &&& 31)))).bind fun v3 =>
  some (v3 &&& (((1 : Int32) <<< (x1 &&& 31)) ^^^ (-1 : Int32))))
 else
  if x2 = 9 then
  ((vcall h 1 x0 (f_X1_isWanted h x0 x1)).bind fun v4 =>
  if v4 = 0 then
    (b_X1_numberOf_98 h (0 : Int32))
  else
    (b_X1_numberOf_98 h (1 : Int32)))
 else
  if x2 = 10 then
  ((hR h 1 x0 6).bind fun v5 =>
  (aI h v5 x1).bind fun v6 =>
  some v6)
 else
  if x2 = 11 then
  ((hR h 1 x0 7).bind fun v7 =>
  (aI h v7 x1).bind fun v8 =>
  some v8)
 else
  if x2 = 12 then
  ((vcall h 1 x0 (f_X1_hasFlag h x0 x1)).bind fun v9 =>
  if v9 = 0 then
    (b_X1_numberOf_126 h (0 : Int32))
  else
    (b_X1_numberOf_126 h (1 : Int32)))
 else
  if x2 = 13 then
  ((hR h 1 x0 8).bind fun v10 =>
  (aI h v10 x1).bind fun v11 =>
  some v11)
 else
  if x2 = 14 then
  ((hR h 1 x0 9).bind fun v12 =>
  (aI h v12 x1).bind fun v13 =>
  some v13)
 else
  if x2 = 15 then
  ((hR h 1 x0 10).bind fun v14 =>
  (aI h v14 x1).bind fun v15 =>
  some v15)
 else
  if x2 = 16 then
  ((hR h 1 x0 11).bind fun v16 =>
  (aI h v16 x1).bind fun v17 =>
  some v17)
 else
  if x2 = 17 then
  ((hR h 1 x0 12).bind fun v18 =>
  (aI h v18 x1).bind fun v19 =>
  some v19)
 else
  if x2 = 18 then
  ((vcall h 1 x0 (f_X1_firstBlameOf h x0 x1)).bind fun v20 =>
  some v20)
 else
  ((vcall h 1 x0 (f_X1_propertyOf h x0 x1 x2)).bind fun v21 =>
  some v21)
def b_X1_leastPatienceOf_31 (h : MH) (rec31 : Int32 → Int32 → Int32 → Option Int32) (x2 : Int32) (x3 : Int32) (x4 : Int32) : Option Int32 :=
  (rA 7 roM (5 : Int32)).bind fun v1 =>
  if v1 < x4 then
    (some (-1 : Int32))
  else
    (if (x4 * x3) < x2 then
      (rec31 x2 x3 (x4 + (1 : Int32)))
    else
      (some x4))
def f_X1_leastPatienceOf_31 (h : MH) : Nat → Int32 → Int32 → Int32 → Option Int32
  | 0 => fun _ _ _ => none
  | n + 1 => fun x2 x3 x4 => b_X1_leastPatienceOf_31 h (f_X1_leastPatienceOf_31 h n) x2 x3 x4
def f_X1_leastPatienceOf (h : MH) (x0 : Nat) (x1 : Int32) : Option Int32 :=
  (vcall h 1 x0 (f_X1_propertyOf h x0 x1 (0 : Int32))).bind fun v2 =>
  (vcall h 1 x0 (f_X1_propertyOf h x0 x1 (3 : Int32))).bind fun v3 =>
  (some (v2 * v3)).bind fun v4 =>
  (vcall h 1 x0 (f_X1_propertyOf h x0 x1 (1 : Int32))).bind fun v5 =>
  (some (v5 * (100 : Int32))).bind fun v6 =>
  (rA 7 roL (5 : Int32)).bind fun v7 =>
  f_X1_leastPatienceOf_31 h FU v4 v6 v7
def b_X1_withAllNeeded_30 (h : MH) (rec9 : Nat → Int32 → Int32 → Option Int32) (x0 : Nat) (x2 : Int32) (x3 : Int32) : Option Int32 :=
  rec9 x0 x2 (x3 + (-1 : Int32))
def b_X1_withAllNeeded_9 (h : MH) (rec9 : Nat → Int32 → Int32 → Option Int32) (x0 : Nat) (x2 : Int32) (x3 : Int32) : Option Int32 :=
  if x3 < 0 then
    (some x2)
  else
    (if (x2 &&& ((1 : Int32) <<< (x3 &&& 31))) = 0 then
      (b_X1_withAllNeeded_30 h rec9 x0 x2 x3)
    else
      ((hR h 1 x0 5).bind fun v1 =>
      (aI h v1 x3).bind fun v2 =>
      (some (x2 ||| v2)).bind fun v3 =>
      b_X1_withAllNeeded_30 h rec9 x0 v3 x3))
def f_X1_withAllNeeded_9 (h : MH) : Nat → Nat → Int32 → Int32 → Option Int32
  | 0 => fun _ _ _ => none
  | n + 1 => fun x0 x2 x3 => b_X1_withAllNeeded_9 h (f_X1_withAllNeeded_9 h n) x0 x2 x3
def f_X1_withAllNeeded (h : MH) (x0 : Nat) (x1 : Int32) : Option Int32 :=
  (hI h 1 x0 0).bind fun v4 =>
  (some (v4 - (1 : Int32))).bind fun v5 =>
  f_X1_withAllNeeded_9 h FU x0 x1 v5
def b_X1_maskOf_28 (h : MH) (rec4 : Nat → Int32 → Int32 → Int32 → Option Int32) (x0 : Nat) (x1 : Int32) (x2 : Int32) (x3 : Int32) : Option Int32 :=
  rec4 x0 x1 x2 (x3 + (1 : Int32))
def b_X1_maskOf_4 (h : MH) (rec4 : Nat → Int32 → Int32 → Int32 → Option Int32) (x0 : Nat) (x1 : Int32) (x2 : Int32) (x3 : Int32) : Option Int32 :=
  (hI h 1 x0 0).bind fun v1 =>
  if v1 ≤ x3 then
    (some x2)
  else
    ((hR h 1 x0 6).bind fun v2 =>
    (aI h v2 x3).bind fun v3 =>
    if v3 = x1 then
      ((some (x2 ||| ((1 : Int32) <<< (x3 &&& 31)))).bind fun v4 =>
      b_X1_maskOf_28 h rec4 x0 x1 v4 x3)
    else
      (b_X1_maskOf_28 h rec4 x0 x1 x2 x3))
def f_X1_maskOf_4 (h : MH) : Nat → Nat → Int32 → Int32 → Int32 → Option Int32
  | 0 => fun _ _ _ _ => none
  | n + 1 => fun x0 x1 x2 x3 => b_X1_maskOf_4 h (f_X1_maskOf_4 h n) x0 x1 x2 x3
def f_X1_maskOf (h : MH) (x0 : Nat) (x1 : Int32) : Option Int32 :=
  f_X1_maskOf_4 h FU x0 x1 (0 : Int32) (0 : Int32)
def b_X1_sumOfVoltages_4 (h : MH) (rec4 : Nat → Int32 → Int32 → Option Int32) (x0 : Nat) (x1 : Int32) (x2 : Int32) : Option Int32 :=
  (hI h 1 x0 0).bind fun v1 =>
  if v1 ≤ x2 then
    (some x1)
  else
    ((hR h 1 x0 7).bind fun v2 =>
    (aI h v2 x2).bind fun v3 =>
    (some (x1 + v3)).bind fun v4 =>
    rec4 x0 v4 (x2 + (1 : Int32)))
def f_X1_sumOfVoltages_4 (h : MH) : Nat → Nat → Int32 → Int32 → Option Int32
  | 0 => fun _ _ _ => none
  | n + 1 => fun x0 x1 x2 => b_X1_sumOfVoltages_4 h (f_X1_sumOfVoltages_4 h n) x0 x1 x2
def f_X1_sumOfVoltages (h : MH) (x0 : Nat) : Option Int32 :=
  f_X1_sumOfVoltages_4 h FU x0 (0 : Int32) (0 : Int32)
def b_X1_isAnyShorted_2 (h : MH) (rec2 : Nat → Int32 → Option Int32) (x0 : Nat) (x1 : Int32) : Option Int32 :=
  (hI h 1 x0 0).bind fun v1 =>
  if v1 ≤ x1 then
    (some ((0 : Int32) &&& 1))
  else
    ((hR h 1 x0 9).bind fun v2 =>
    (aI h v2 x1).bind fun v3 =>
    if v3 ≤ 0 then
      (rec2 x0 (x1 + (1 : Int32)))
    else
      (some ((1 : Int32) &&& 1)))
def f_X1_isAnyShorted_2 (h : MH) : Nat → Nat → Int32 → Option Int32
  | 0 => fun _ _ => none
  | n + 1 => fun x0 x1 => b_X1_isAnyShorted_2 h (f_X1_isAnyShorted_2 h n) x0 x1
def f_X1_isAnyShorted (h : MH) (x0 : Nat) : Option Int32 :=
  f_X1_isAnyShorted_2 h FU x0 (0 : Int32)
def b_X1_isAllOff_27 (h : MH)  : Option Int32 :=
  some ((0 : Int32) &&& 1)
def b_X1_isAllOff_2 (h : MH) (rec2 : Nat → Int32 → Option Int32) (x0 : Nat) (x1 : Int32) : Option Int32 :=
  (hI h 1 x0 0).bind fun v1 =>
  if v1 ≤ x1 then
    (some ((1 : Int32) &&& 1))
  else
    ((hR h 1 x0 6).bind fun v2 =>
    (aI h v2 x1).bind fun v3 =>
    if v3 = 0 then
      ((vcall h 1 x0 (f_X1_isDischarged h x0 x1)).bind fun v4 =>
      if v4 = 0 then
        (b_X1_isAllOff_27 h )
      else
        (rec2 x0 (x1 + (1 : Int32))))
    else
      (b_X1_isAllOff_27 h ))
def f_X1_isAllOff_2 (h : MH) : Nat → Nat → Int32 → Option Int32
  | 0 => fun _ _ => none
  | n + 1 => fun x0 x1 => b_X1_isAllOff_2 h (f_X1_isAllOff_2 h n) x0 x1
def f_X1_isAllOff (h : MH) (x0 : Nat) : Option Int32 :=
  f_X1_isAllOff_2 h FU x0 (0 : Int32)
def f_X1_rememberBefore (h : MH) (x0 : Nat) : Option MH :=
  (hR h 1 x0 6).bind fun v1 =>
  (hR h 1 x0 15).bind fun v2 =>
  (cpA h v1 (0 : Int32) v2 (0 : Int32) (8 : Int32)).bind fun h3 =>
  (hR h3 1 x0 7).bind fun v4 =>
  (hR h3 1 x0 16).bind fun v5 =>
  (cpA h3 v4 (0 : Int32) v5 (0 : Int32) (8 : Int32)).bind fun h6 =>
  (hR h6 1 x0 10).bind fun v7 =>
  (hR h6 1 x0 17).bind fun v8 =>
  (cpA h6 v7 (0 : Int32) v8 (0 : Int32) (8 : Int32)).bind fun h9 =>
  some h9
def b_X1_moveVoltages_120 (rec2 : MH → Nat → Int32 → Option MH) (h : MH) (x0 : Nat) (x1 : Int32) (s0 : Nat) (s1 : Int32) (s2 : Int32) : Option MH :=
  (sI h s0 s1 s2).bind fun h1 =>
  rec2 h1 x0 (x1 + (1 : Int32))
def b_X1_moveVoltages_71 (rec2 : MH → Nat → Int32 → Option MH) (h : MH) (x0 : Nat) (x1 : Int32) (x3 : Int32) (s0 : Nat) (s1 : Int32) (s2 : Int32) : Option MH :=
  (vcall h 1 s0 (f_X1_propertyOf h s0 s1 s2)).bind fun v2 =>
  (hR h 1 x0 7).bind fun v3 =>
  (hR h 1 x0 7).bind fun v4 =>
  (aI h v4 x1).bind fun v5 =>
  if x3 ≤ v5 then
    ((hR h 1 x0 7).bind fun v6 =>
    (aI h v6 x1).bind fun v7 =>
    b_X1_moveVoltages_120 rec2 h x0 x1 v3 x1 (mmax x3 (v7 - v2)))
  else
    ((hR h 1 x0 7).bind fun v8 =>
    (aI h v8 x1).bind fun v9 =>
    b_X1_moveVoltages_120 rec2 h x0 x1 v3 x1 (mmin x3 (v9 + v2)))
def b_X1_moveVoltages_59 (rec2 : MH → Nat → Int32 → Option MH) (h : MH) (x0 : Nat) (x1 : Int32) (x2 : Int32) (s0 : Int32) : Option MH :=
  if x2 = 0 then
    (b_X1_moveVoltages_71 rec2 h x0 x1 s0 x0 x1 (2 : Int32))
  else
    (b_X1_moveVoltages_71 rec2 h x0 x1 s0 x0 x1 (1 : Int32))
def b_X1_moveVoltages_44 (rec2 : MH → Nat → Int32 → Option MH) (h : MH) (x0 : Nat) (x1 : Int32) (s0 : Int32) : Option MH :=
  if s0 = 0 then
    (b_X1_moveVoltages_59 rec2 h x0 x1 s0 (0 : Int32))
  else
    ((vcall h 1 x0 (f_X1_propertyOf h x0 x1 (0 : Int32))).bind fun v10 =>
    b_X1_moveVoltages_59 rec2 h x0 x1 s0 v10)
def b_X1_moveVoltages_43 (rec2 : MH → Nat → Int32 → Option MH) (h : MH) (x0 : Nat) (x1 : Int32) : Option MH :=
  b_X1_moveVoltages_44 rec2 h x0 x1 (0 : Int32)
def b_X1_moveVoltages_30 (rec2 : MH → Nat → Int32 → Option MH) (h : MH) (x0 : Nat) (x1 : Int32) : Option MH :=
  (hR h 1 x0 9).bind fun v11 =>
  (aI h v11 x1).bind fun v12 =>
  if v12 = 0 then
    (b_X1_moveVoltages_44 rec2 h x0 x1 (1 : Int32))
  else
    (b_X1_moveVoltages_43 rec2 h x0 x1)
def b_X1_moveVoltages_2 (rec2 : MH → Nat → Int32 → Option MH) (h : MH) (x0 : Nat) (x1 : Int32) : Option MH :=
  (hI h 1 x0 0).bind fun v13 =>
  if v13 ≤ x1 then
    (some h)
  else
    ((hR h 1 x0 6).bind fun v14 =>
    (aI h v14 x1).bind fun v15 =>
    if v15 = (2 : Int32) then
      (b_X1_moveVoltages_30 rec2 h x0 x1)
    else
      ((hR h 1 x0 6).bind fun v16 =>
      (aI h v16 x1).bind fun v17 =>
      if v17 = (3 : Int32) then
        (b_X1_moveVoltages_30 rec2 h x0 x1)
      else
        (b_X1_moveVoltages_43 rec2 h x0 x1)))
def f_X1_moveVoltages_2 : Nat → MH → Nat → Int32 → Option MH
  | 0 => fun _ _ _ => none
  | n + 1 => fun h x0 x1 => b_X1_moveVoltages_2 (f_X1_moveVoltages_2 n) h x0 x1
def f_X1_moveVoltages (h : MH) (x0 : Nat) : Option MH :=
  f_X1_moveVoltages_2 FU h x0 (0 : Int32)
def f_X1_afterOff (h : MH) (x0 : Nat) (x1 : Int32) : Option (Int32 × MH) :=
  (vcall h 1 x0 (f_X1_isWanted h x0 x1)).bind fun v1 =>
  if v1 = 0 then
    (some ((0 : Int32), h))
  else
    ((hR h 1 x0 10).bind fun v2 =>
    (sI h v2 x1 (0 : Int32)).bind fun h3 =>
    (hR h3 1 x0 11).bind fun v4 =>
    (sI h3 v4 x1 (0 : Int32)).bind fun h5 =>
    some ((1 : Int32), h5))
def b_X1_lowestBadNeed_48 (h : MH) (x2 : Int32) : Option Int32 :=
  some x2
def b_X1_lowestBadNeed_50 (h : MH) (rec2 : Nat → Int32 → Int32 → Option Int32) (x0 : Nat) (x1 : Int32) (x2 : Int32) : Option Int32 :=
  rec2 x0 x1 (x2 + (1 : Int32))
def b_X1_lowestBadNeed_25 (h : MH) (rec2 : Nat → Int32 → Int32 → Option Int32) (x0 : Nat) (x1 : Int32) (x2 : Int32) (s0 : Int32) : Option Int32 :=
  if s0 = 0 then
    (b_X1_lowestBadNeed_50 h rec2 x0 x1 x2)
  else
    ((hR h 1 x0 15).bind fun v1 =>
    (aI h v1 x2).bind fun v2 =>
    if v2 = (3 : Int32) then
      ((vcall h 1 x0 (f_X1_hasFlag h x0 x2)).bind fun v3 =>
      if v3 = 0 then
        (b_X1_lowestBadNeed_48 h x2)
      else
        (b_X1_lowestBadNeed_50 h rec2 x0 x1 x2))
    else
      (b_X1_lowestBadNeed_48 h x2))
def b_X1_lowestBadNeed_2 (h : MH) (rec2 : Nat → Int32 → Int32 → Option Int32) (x0 : Nat) (x1 : Int32) (x2 : Int32) : Option Int32 :=
  if x1 ≤ x2 then
    (some (-1 : Int32))
  else
    ((hR h 1 x0 5).bind fun v4 =>
    (aI h v4 x1).bind fun v5 =>
    if (v5 &&& ((1 : Int32) <<< (x2 &&& 31))) = 0 then
      (b_X1_lowestBadNeed_25 h rec2 x0 x1 x2 (0 : Int32))
    else
      (b_X1_lowestBadNeed_25 h rec2 x0 x1 x2 (1 : Int32)))
def f_X1_lowestBadNeed_2 (h : MH) : Nat → Nat → Int32 → Int32 → Option Int32
  | 0 => fun _ _ _ => none
  | n + 1 => fun x0 x1 x2 => b_X1_lowestBadNeed_2 h (f_X1_lowestBadNeed_2 h n) x0 x1 x2
def f_X1_lowestBadNeed (h : MH) (x0 : Nat) (x1 : Int32) : Option Int32 :=
  f_X1_lowestBadNeed_2 h FU x0 x1 (0 : Int32)
def b_X1_afterWaiting_27 (h : MH) (x0 : Nat) (x1 : Int32) : Option (Int32 × MH) :=
  (hR h 1 x0 10).bind fun v1 =>
  (sI h v1 x1 (0 : Int32)).bind fun h2 =>
  some ((1 : Int32), h2)
def f_X1_afterWaiting (h : MH) (x0 : Nat) (x1 : Int32) : Option (Int32 × MH) :=
  (vcall h 1 x0 (f_X1_isWanted h x0 x1)).bind fun v3 =>
  if v3 = 0 then
    (some ((0 : Int32), h))
  else
    ((vcall h 1 x0 (f_X1_isDischarged h x0 x1)).bind fun v4 =>
    if v4 = 0 then
      (b_X1_afterWaiting_27 h x0 x1)
    else
      ((vcall h 1 x0 (f_X1_lowestBadNeed h x0 x1)).bind fun v5 =>
      if v5 = (-1 : Int32) then
        ((hR h 1 x0 10).bind fun v6 =>
        (aI h v6 x1).bind fun v7 =>
        (sI h v6 x1 (v7 + (1 : Int32))).bind fun h8 =>
        (hR h8 1 x0 10).bind fun v9 =>
        (aI h8 v9 x1).bind fun v10 =>
        (vcall h8 1 x0 (f_X1_propertyOf h8 x0 x1 (4 : Int32))).bind fun v11 =>
        if v11 < v10 then
          ((hR h8 1 x0 10).bind fun v12 =>
          (sI h8 v12 x1 (0 : Int32)).bind fun h13 =>
          some ((2 : Int32), h13))
        else
          (some ((1 : Int32), h8)))
      else
        (b_X1_afterWaiting_27 h x0 x1)))
def b_X1_afterFailure_52 (h : MH) (s0 : Int32) : Option (Int32 × MH) :=
  some (s0, h)
def f_X1_afterFailure (h : MH) (x0 : Nat) (x1 : Int32) : Option (Int32 × MH) :=
  (hR h 1 x0 12).bind fun v1 =>
  (sI h v1 x1 x1).bind fun h2 =>
  (hR h2 1 x0 11).bind fun v3 =>
  (aI h2 v3 x1).bind fun v4 =>
  (sI h2 v3 x1 (v4 + (1 : Int32))).bind fun h5 =>
  (hR h5 1 x0 13).bind fun v6 =>
  (aI h5 v6 ((x1 * (4 : Int32)) + (2 : Int32))).bind fun v7 =>
  (sI h5 v6 ((x1 * (4 : Int32)) + (2 : Int32)) (v7 + (1 : Int32))).bind fun h8 =>
  (hR h8 1 x0 11).bind fun v9 =>
  (aI h8 v9 x1).bind fun v10 =>
  (vcall h8 1 x0 (f_X1_propertyOf h8 x0 x1 (6 : Int32))).bind fun v11 =>
  if v10 < v11 then
    (b_X1_afterFailure_52 h8 (4 : Int32))
  else
    (b_X1_afterFailure_52 h8 (5 : Int32))
def b_X1_afterRising_88 (h : MH) (s0 : Int32) : Option (Int32 × MH) :=
  some (s0, h)
def f_X1_afterRising (h : MH) (x0 : Nat) (x1 : Int32) : Option (Int32 × MH) :=
  (vcall h 1 x0 (f_X1_isWanted h x0 x1)).bind fun v1 =>
  if v1 = 0 then
    ((hR h 1 x0 12).bind fun v15 =>
    (sI h v15 x1 (-1 : Int32)).bind fun h16 =>
    some ((4 : Int32), h16))
  else
    ((vcall h 1 x0 (f_X1_lowestBadNeed h x0 x1)).bind fun v2 =>
    if v2 = (-1 : Int32) then
      ((vcall h 1 x0 (f_X1_hasFlag h x0 x1)).bind fun v3 =>
      if v3 = 0 then
        ((hR h 1 x0 10).bind fun v4 =>
        (aI h v4 x1).bind fun v5 =>
        (sI h v4 x1 (v5 + (1 : Int32))).bind fun h6 =>
        (hR h6 1 x0 10).bind fun v7 =>
        (aI h6 v7 x1).bind fun v8 =>
        (vcall h6 1 x0 (f_X1_propertyOf h6 x0 x1 (5 : Int32))).bind fun v9 =>
        if v8 < v9 then
          (b_X1_afterRising_88 h6 (2 : Int32))
        else
          ((vcall h6 1 x0 (f_X1_afterFailure h6 x0 x1)).bind fun p10 =>
          b_X1_afterRising_88 p10.2 p10.1))
      else
        ((hR h 1 x0 12).bind fun v11 =>
        (sI h v11 x1 (-1 : Int32)).bind fun h12 =>
        some ((3 : Int32), h12)))
    else
      ((hR h 1 x0 12).bind fun v13 =>
      (sI h v13 x1 v2).bind fun h14 =>
      some ((4 : Int32), h14)))
def b_X1_areUsersAtRest_74 (h : MH)  : Option Int32 :=
  some ((0 : Int32) &&& 1)
def b_X1_areUsersAtRest_76 (h : MH) (rec4 : Nat → Int32 → Int32 → Option Int32) (x0 : Nat) (x1 : Int32) (x2 : Int32) : Option Int32 :=
  rec4 x0 x1 (x2 + (1 : Int32))
def b_X1_areUsersAtRest_55 (h : MH) (rec4 : Nat → Int32 → Int32 → Option Int32) (x0 : Nat) (x1 : Int32) (x2 : Int32) (x3 : Int32) (s0 : Int32) : Option Int32 :=
  if x3 = 0 then
    (b_X1_areUsersAtRest_76 h rec4 x0 x1 x2)
  else
    (if s0 = 0 then
      (b_X1_areUsersAtRest_74 h )
    else
      ((vcall h 1 x0 (f_X1_isDischarged h x0 x2)).bind fun v1 =>
      if v1 = 0 then
        (b_X1_areUsersAtRest_74 h )
      else
        (b_X1_areUsersAtRest_76 h rec4 x0 x1 x2)))
def b_X1_areUsersAtRest_50 (h : MH) (rec4 : Nat → Int32 → Int32 → Option Int32) (x0 : Nat) (x1 : Int32) (x2 : Int32) (x3 : Int32) : Option Int32 :=
  b_X1_areUsersAtRest_55 h rec4 x0 x1 x2 x3 (1 : Int32)
def b_X1_areUsersAtRest_30 (h : MH) (rec4 : Nat → Int32 → Int32 → Option Int32) (x0 : Nat) (x1 : Int32) (x2 : Int32) (s0 : Int32) : Option Int32 :=
  (hR h 1 x0 15).bind fun v2 =>
  (aI h v2 x2).bind fun v3 =>
  if v3 = 0 then
    (b_X1_areUsersAtRest_50 h rec4 x0 x1 x2 s0)
  else
    ((hR h 1 x0 15).bind fun v4 =>
    (aI h v4 x2).bind fun v5 =>
    if v5 = (5 : Int32) then
      (b_X1_areUsersAtRest_50 h rec4 x0 x1 x2 s0)
    else
      (b_X1_areUsersAtRest_55 h rec4 x0 x1 x2 s0 (0 : Int32)))
def b_X1_areUsersAtRest_4 (h : MH) (rec4 : Nat → Int32 → Int32 → Option Int32) (x0 : Nat) (x1 : Int32) (x2 : Int32) : Option Int32 :=
  (hI h 1 x0 0).bind fun v6 =>
  if v6 ≤ x2 then
    (some ((1 : Int32) &&& 1))
  else
    ((hR h 1 x0 5).bind fun v7 =>
    (aI h v7 x2).bind fun v8 =>
    if (v8 &&& ((1 : Int32) <<< (x1 &&& 31))) = 0 then
      (b_X1_areUsersAtRest_30 h rec4 x0 x1 x2 (0 : Int32))
    else
      (b_X1_areUsersAtRest_30 h rec4 x0 x1 x2 (1 : Int32)))
def f_X1_areUsersAtRest_4 (h : MH) : Nat → Nat → Int32 → Int32 → Option Int32
  | 0 => fun _ _ _ => none
  | n + 1 => fun x0 x1 x2 => b_X1_areUsersAtRest_4 h (f_X1_areUsersAtRest_4 h n) x0 x1 x2
def f_X1_areUsersAtRest (h : MH) (x0 : Nat) (x1 : Int32) : Option Int32 :=
  (some (x1 + (1 : Int32))).bind fun v9 =>
  f_X1_areUsersAtRest_4 h FU x0 x1 v9
def b_X1_afterGood_59 (h : MH) : Option (Int32 × MH) :=
  some ((3 : Int32), h)
def f_X1_afterGood (h : MH) (x0 : Nat) (x1 : Int32) : Option (Int32 × MH) :=
  (vcall h 1 x0 (f_X1_lowestBadNeed h x0 x1)).bind fun v1 =>
  if v1 = (-1 : Int32) then
    ((vcall h 1 x0 (f_X1_hasFlag h x0 x1)).bind fun v2 =>
    if v2 = 0 then
      ((vcall h 1 x0 (f_X1_afterFailure h x0 x1)).bind fun p7 =>
      some (p7.1, p7.2))
    else
      ((vcall h 1 x0 (f_X1_isWanted h x0 x1)).bind fun v3 =>
      if v3 = 0 then
        ((vcall h 1 x0 (f_X1_areUsersAtRest h x0 x1)).bind fun v4 =>
        if v4 = 0 then
          (b_X1_afterGood_59 h)
        else
          ((hR h 1 x0 12).bind fun v5 =>
          (sI h v5 x1 (-1 : Int32)).bind fun h6 =>
          some ((4 : Int32), h6)))
      else
        (b_X1_afterGood_59 h)))
  else
    ((hR h 1 x0 12).bind fun v8 =>
    (sI h v8 x1 v1).bind fun h9 =>
    some ((4 : Int32), h9))
def f_X1_afterFalling (h : MH) (x0 : Nat) (x1 : Int32) : Option (Int32 × MH) :=
  (vcall h 1 x0 (f_X1_isDischarged h x0 x1)).bind fun v1 =>
  if v1 = 0 then
    (some ((4 : Int32), h))
  else
    ((vcall h 1 x0 (f_X1_isWanted h x0 x1)).bind fun v2 =>
    if v2 = 0 then
      (some ((0 : Int32), h))
    else
      ((hR h 1 x0 10).bind fun v3 =>
      (sI h v3 x1 (0 : Int32)).bind fun h4 =>
      some ((1 : Int32), h4)))
def b_X1_nextState_91 (h : MH) (s0 : Int32) : Option (Int32 × MH) :=
  some (s0, h)
def b_X1_nextState_90 (h : MH) : Option (Int32 × MH) :=
  b_X1_nextState_91 h (5 : Int32)
def f_X1_nextState (h : MH) (x0 : Nat) (x1 : Int32) : Option (Int32 × MH) :=
  (hR h 1 x0 6).bind fun v1 =>
  (aI h v1 x1).bind fun v2 =>
  if v2 = 0 then
  ((vcall h 1 x0 (f_X1_afterOff h x0 x1)).bind fun p3 =>
  some (p3.1, p3.2))
 else
  if v2 = 1 then
  ((vcall h 1 x0 (f_X1_afterWaiting h x0 x1)).bind fun p4 =>
  some (p4.1, p4.2))
 else
  if v2 = 2 then
  ((vcall h 1 x0 (f_X1_afterRising h x0 x1)).bind fun p5 =>
  some (p5.1, p5.2))
 else
  if v2 = 3 then
  ((vcall h 1 x0 (f_X1_afterGood h x0 x1)).bind fun p6 =>
  some (p6.1, p6.2))
 else
  if v2 = 4 then
  ((vcall h 1 x0 (f_X1_afterFalling h x0 x1)).bind fun p7 =>
  some (p7.1, p7.2))
 else
  ((vcall h 1 x0 (f_X1_isWanted h x0 x1)).bind fun v8 =>
  if v8 = 0 then
    ((vcall h 1 x0 (f_X1_isDischarged h x0 x1)).bind fun v9 =>
    if v9 = 0 then
      (b_X1_nextState_90 h)
    else
      (b_X1_nextState_91 h (0 : Int32)))
  else
    (b_X1_nextState_90 h))
def b_X1_become_45 (h : MH) (x0 : Nat) (x1 : Int32) (x2 : Int32) : Option MH :=
  (hR h 1 x0 14).bind fun v1 =>
  (hI h 1 x0 1).bind fun v2 =>
  (hR h 1 x0 12).bind fun v3 =>
  (aI h v3 x1).bind fun v4 =>
  (vcall h 0 v1 (f_X0_enter h v1 v2 x1 x2 v4)).bind fun h5 =>
  some h5
def b_X1_become_26 (h : MH) (x0 : Nat) (x1 : Int32) (x2 : Int32) : Option MH :=
  if x2 = (3 : Int32) then
    ((hR h 1 x0 13).bind fun v6 =>
    (aI h v6 ((x1 * (4 : Int32)) + (1 : Int32))).bind fun v7 =>
    (sI h v6 ((x1 * (4 : Int32)) + (1 : Int32)) (v7 + (1 : Int32))).bind fun h8 =>
    b_X1_become_45 h8 x0 x1 x2)
  else
    (b_X1_become_45 h x0 x1 x2)
def f_X1_become (h : MH) (x0 : Nat) (x1 : Int32) (x2 : Int32) : Option MH :=
  (hR h 1 x0 6).bind fun v9 =>
  (sI h v9 x1 x2).bind fun h10 =>
  if x2 = (2 : Int32) then
    ((hR h10 1 x0 13).bind fun v11 =>
    (aI h10 v11 ((x1 * (4 : Int32)) + (0 : Int32))).bind fun v12 =>
    (sI h10 v11 ((x1 * (4 : Int32)) + (0 : Int32)) (v12 + (1 : Int32))).bind fun h13 =>
    b_X1_become_26 h13 x0 x1 x2)
  else
    (b_X1_become_26 h10 x0 x1 x2)
def b_X1_endTick_53 (rec2 : MH → Nat → Int32 → Option MH) (h : MH) (x0 : Nat) (x1 : Int32) : Option MH :=
  rec2 h x0 (x1 + (1 : Int32))
def b_X1_endTick_29 (rec2 : MH → Nat → Int32 → Option MH) (h : MH) (x0 : Nat) (x1 : Int32) : Option MH :=
  (hR h 1 x0 6).bind fun v1 =>
  (aI h v1 x1).bind fun v2 =>
  if v2 = (3 : Int32) then
    ((hR h 1 x0 13).bind fun v3 =>
    (aI h v3 ((x1 * (4 : Int32)) + (3 : Int32))).bind fun v4 =>
    (sI h v3 ((x1 * (4 : Int32)) + (3 : Int32)) (v4 + (1 : Int32))).bind fun h5 =>
    b_X1_endTick_53 rec2 h5 x0 x1)
  else
    (b_X1_endTick_53 rec2 h x0 x1)
def b_X1_endTick_2 (rec2 : MH → Nat → Int32 → Option MH) (h : MH) (x0 : Nat) (x1 : Int32) : Option MH :=
  (hI h 1 x0 0).bind fun v6 =>
  if v6 ≤ x1 then
    ((hI h 1 x0 1).bind fun v7 =>
    (hP h 1 x0 1 (.int (v7 + (1 : Int32)))).bind fun h8 =>
    some h8)
  else
    ((hR h 1 x0 9).bind fun v9 =>
    (aI h v9 x1).bind fun v10 =>
    if v10 ≤ 0 then
      (b_X1_endTick_29 rec2 h x0 x1)
    else
      ((hR h 1 x0 9).bind fun v11 =>
      (aI h v11 x1).bind fun v12 =>
      (sI h v11 x1 (v12 - (1 : Int32))).bind fun h13 =>
      b_X1_endTick_29 rec2 h13 x0 x1))
def f_X1_endTick_2 : Nat → MH → Nat → Int32 → Option MH
  | 0 => fun _ _ _ => none
  | n + 1 => fun h x0 x1 => b_X1_endTick_2 (f_X1_endTick_2 n) h x0 x1
def f_X1_endTick (h : MH) (x0 : Nat) : Option MH :=
  f_X1_endTick_2 FU h x0 (0 : Int32)
def b_X1_passTick_45 (rec12 : MH → Nat → Int32 → Int32 → Option (Int32 × MH)) (h : MH) (x0 : Nat) (x1 : Int32) (x2 : Int32) : Option (Int32 × MH) :=
  rec12 h x0 x1 (x2 + (1 : Int32))
def b_X1_passTick_12 (rec12 : MH → Nat → Int32 → Int32 → Option (Int32 × MH)) (h : MH) (x0 : Nat) (x1 : Int32) (x2 : Int32) : Option (Int32 × MH) :=
  (hI h 1 x0 0).bind fun v1 =>
  if v1 ≤ x2 then
    ((vcall h 1 x0 (f_X1_endTick h x0)).bind fun h2 =>
    some (x1, h2))
  else
    ((vcall h 1 x0 (f_X1_nextState h x0 x2)).bind fun p3 =>
    (hR p3.2 1 x0 6).bind fun v4 =>
    (aI p3.2 v4 x2).bind fun v5 =>
    if p3.1 = v5 then
      (b_X1_passTick_45 rec12 p3.2 x0 x1 x2)
    else
      ((vcall p3.2 1 x0 (f_X1_become p3.2 x0 x2 p3.1)).bind fun h6 =>
      b_X1_passTick_45 rec12 h6 x0 (x1 + (1 : Int32)) x2))
def f_X1_passTick_12 : Nat → MH → Nat → Int32 → Int32 → Option (Int32 × MH)
  | 0 => fun _ _ _ _ => none
  | n + 1 => fun h x0 x1 x2 => b_X1_passTick_12 (f_X1_passTick_12 n) h x0 x1 x2
def f_X1_passTick (h : MH) (x0 : Nat) : Option (Int32 × MH) :=
  (vcall h 1 x0 (f_X1_rememberBefore h x0)).bind fun h7 =>
  (vcall h7 1 x0 (f_X1_moveVoltages h7 x0)).bind fun h8 =>
  f_X1_passTick_12 FU h8 x0 (0 : Int32) (0 : Int32)
def b_X1_wasStill_55 (h : MH)  : Option Int32 :=
  some ((0 : Int32) &&& 1)
def b_X1_wasStill_2 (h : MH) (rec2 : Nat → Int32 → Option Int32) (x0 : Nat) (x1 : Int32) : Option Int32 :=
  (hI h 1 x0 0).bind fun v1 =>
  if v1 ≤ x1 then
    (some ((1 : Int32) &&& 1))
  else
    ((hR h 1 x0 6).bind fun v2 =>
    (aI h v2 x1).bind fun v3 =>
    (hR h 1 x0 15).bind fun v4 =>
    (aI h v4 x1).bind fun v5 =>
    if v3 = v5 then
      ((hR h 1 x0 7).bind fun v6 =>
      (aI h v6 x1).bind fun v7 =>
      (hR h 1 x0 16).bind fun v8 =>
      (aI h v8 x1).bind fun v9 =>
      if v7 = v9 then
        ((hR h 1 x0 10).bind fun v10 =>
        (aI h v10 x1).bind fun v11 =>
        (hR h 1 x0 17).bind fun v12 =>
        (aI h v12 x1).bind fun v13 =>
        if v11 = v13 then
          (rec2 x0 (x1 + (1 : Int32)))
        else
          (b_X1_wasStill_55 h ))
      else
        (b_X1_wasStill_55 h ))
    else
      (b_X1_wasStill_55 h ))
def f_X1_wasStill_2 (h : MH) : Nat → Nat → Int32 → Option Int32
  | 0 => fun _ _ => none
  | n + 1 => fun x0 x1 => b_X1_wasStill_2 h (f_X1_wasStill_2 h n) x0 x1
def f_X1_wasStill (h : MH) (x0 : Nat) : Option Int32 :=
  f_X1_wasStill_2 h FU x0 (0 : Int32)
def b_X1_justDropped_63 (h : MH) (rec4 : Nat → Int32 → Int32 → Option Int32) (x0 : Nat) (x1 : Int32) (x2 : Int32) : Option Int32 :=
  rec4 x0 x1 (x2 + (1 : Int32))
def b_X1_justDropped_37 (h : MH) (rec4 : Nat → Int32 → Int32 → Option Int32) (x0 : Nat) (x1 : Int32) (x2 : Int32) (s0 : Int32) : Option Int32 :=
  if s0 = 0 then
    (b_X1_justDropped_63 h rec4 x0 x1 x2)
  else
    ((hR h 1 x0 6).bind fun v1 =>
    (aI h v1 x2).bind fun v2 =>
    (hR h 1 x0 15).bind fun v3 =>
    (aI h v3 x2).bind fun v4 =>
    if v2 = v4 then
      (b_X1_justDropped_63 h rec4 x0 x1 x2)
    else
      ((some (x1 ||| ((1 : Int32) <<< (x2 &&& 31)))).bind fun v5 =>
      b_X1_justDropped_63 h rec4 x0 v5 x2))
def b_X1_justDropped_32 (h : MH) (rec4 : Nat → Int32 → Int32 → Option Int32) (x0 : Nat) (x1 : Int32) (x2 : Int32) : Option Int32 :=
  b_X1_justDropped_37 h rec4 x0 x1 x2 (1 : Int32)
def b_X1_justDropped_4 (h : MH) (rec4 : Nat → Int32 → Int32 → Option Int32) (x0 : Nat) (x1 : Int32) (x2 : Int32) : Option Int32 :=
  (hI h 1 x0 0).bind fun v6 =>
  if v6 ≤ x2 then
    (some x1)
  else
    ((hR h 1 x0 6).bind fun v7 =>
    (aI h v7 x2).bind fun v8 =>
    if v8 = (4 : Int32) then
      (b_X1_justDropped_32 h rec4 x0 x1 x2)
    else
      ((hR h 1 x0 6).bind fun v9 =>
      (aI h v9 x2).bind fun v10 =>
      if v10 = (5 : Int32) then
        (b_X1_justDropped_32 h rec4 x0 x1 x2)
      else
        (b_X1_justDropped_37 h rec4 x0 x1 x2 (0 : Int32))))
def f_X1_justDropped_4 (h : MH) : Nat → Nat → Int32 → Int32 → Option Int32
  | 0 => fun _ _ _ => none
  | n + 1 => fun x0 x1 x2 => b_X1_justDropped_4 h (f_X1_justDropped_4 h n) x0 x1 x2
def f_X1_justDropped (h : MH) (x0 : Nat) : Option Int32 :=
  f_X1_justDropped_4 h FU x0 (0 : Int32) (0 : Int32)
def b_X1_isToDrop_43 (h : MH) (s0 : Int32) : Option Int32 :=
  some (s0 &&& 1)
def b_X1_isToDrop_38 (h : MH)  : Option Int32 :=
  b_X1_isToDrop_43 h (1 : Int32)
def b_X1_isToDrop_42 (h : MH)  : Option Int32 :=
  b_X1_isToDrop_43 h (0 : Int32)
def f_X1_isToDrop (h : MH) (x0 : Nat) (x1 : Int32) : Option Int32 :=
  (hR h 1 x0 6).bind fun v1 =>
  (aI h v1 x1).bind fun v2 =>
  if v2 = (2 : Int32) then
    (b_X1_isToDrop_38 h )
  else
    ((hR h 1 x0 6).bind fun v3 =>
    (aI h v3 x1).bind fun v4 =>
    if v4 = (3 : Int32) then
      (b_X1_isToDrop_38 h )
    else
      ((hR h 1 x0 6).bind fun v5 =>
      (aI h v5 x1).bind fun v6 =>
      if v6 = (5 : Int32) then
        ((vcall h 1 x0 (f_X1_isWanted h x0 x1)).bind fun v7 =>
        if v7 = 0 then
          (b_X1_isToDrop_42 h )
        else
          (b_X1_isToDrop_38 h ))
      else
        (b_X1_isToDrop_42 h )))
def b_X1_dropForRestart_66 (rec13 : MH → Nat → Int32 → Int32 → Int32 → Int32 → Option (Int32 × MH)) (h : MH) (x0 : Nat) (x1 : Int32) (x2 : Int32) (x3 : Int32) (x4 : Int32) : Option (Int32 × MH) :=
  rec13 h x0 x1 x2 x3 (x4 + (1 : Int32))
def b_X1_dropForRestart_13 (rec13 : MH → Nat → Int32 → Int32 → Int32 → Int32 → Option (Int32 × MH)) (h : MH) (x0 : Nat) (x1 : Int32) (x2 : Int32) (x3 : Int32) (x4 : Int32) : Option (Int32 × MH) :=
  (hI h 1 x0 0).bind fun v1 =>
  if v1 ≤ x4 then
    (some (x3, h))
  else
    (if (x2 &&& ((1 : Int32) <<< (x4 &&& 31))) = 0 then
      (b_X1_dropForRestart_66 rec13 h x0 x1 x2 x3 x4)
    else
      ((vcall h 1 x0 (f_X1_isToDrop h x0 x4)).bind fun v2 =>
      if v2 = 0 then
        (b_X1_dropForRestart_66 rec13 h x0 x1 x2 x3 x4)
      else
        ((hR h 1 x0 12).bind fun v3 =>
        (sI h v3 x4 x1).bind fun h4 =>
        (hR h4 1 x0 11).bind fun v5 =>
        (sI h4 v5 x4 (0 : Int32)).bind fun h6 =>
        (vcall h6 1 x0 (f_X1_become h6 x0 x4 (4 : Int32))).bind fun h7 =>
        b_X1_dropForRestart_66 rec13 h7 x0 x1 x2 (x3 + (1 : Int32)) x4)))
def f_X1_dropForRestart_13 : Nat → MH → Nat → Int32 → Int32 → Int32 → Int32 → Option (Int32 × MH)
  | 0 => fun _ _ _ _ _ _ => none
  | n + 1 => fun h x0 x1 x2 x3 x4 => b_X1_dropForRestart_13 (f_X1_dropForRestart_13 n) h x0 x1 x2 x3 x4
def f_X1_dropForRestart (h : MH) (x0 : Nat) (x1 : Int32) : Option (Int32 × MH) :=
  (vcall h 1 x0 (f_X1_withFollowers h x0 ((1 : Int32) <<< (x1 &&& 31)))).bind fun v8 =>
  f_X1_dropForRestart_13 FU h x0 x1 v8 (0 : Int32) x1
def f_X2_init (h : MH) (x0 : Nat) : Option MH :=
  (nA h 0 (3, .inl (fun _ => 0))).bind fun h1 =>
  (hP h1 2 x0 0 (.ref (h.length))).bind fun h2 =>
  some h2
def b_X2_begin_2 (rec2 : MH → Nat → Int32 → Option MH) (h : MH) (x0 : Nat) (x1 : Int32) : Option MH :=
  if (3 : Int32) ≤ x1 then
    ((hP h 2 x0 1 (.int (0 : Int32))).bind fun h1 =>
    (hP h1 2 x0 2 (.int (0 : Int32))).bind fun h2 =>
    (hP h2 2 x0 3 (.int (-1 : Int32))).bind fun h3 =>
    some h3)
  else
    ((hR h 2 x0 0).bind fun v4 =>
    (sI h v4 x1 (0 : Int32)).bind fun h5 =>
    rec2 h5 x0 (x1 + (1 : Int32)))
def f_X2_begin_2 : Nat → MH → Nat → Int32 → Option MH
  | 0 => fun _ _ _ => none
  | n + 1 => fun h x0 x1 => b_X2_begin_2 (f_X2_begin_2 n) h x0 x1
def f_X2_begin (h : MH) (x0 : Nat) : Option MH :=
  f_X2_begin_2 FU h x0 (0 : Int32)
def b_X2_takeNeed_14 (h : MH) : Option (Int32 × MH) :=
  some (((0 : Int32) &&& 1), h)
def f_X2_takeNeed (h : MH) (x0 : Nat) (x1 : Int32) : Option (Int32 × MH) :=
  if (6 : Int32) < x1 then
    (b_X2_takeNeed_14 h)
  else
    ((hI h 2 x0 3).bind fun v1 =>
    if v1 < x1 then
      ((hI h 2 x0 1).bind fun v2 =>
      (hP h 2 x0 1 (.int (v2 ||| ((1 : Int32) <<< (x1 &&& 31))))).bind fun h3 =>
      (hP h3 2 x0 3 (.int x1)).bind fun h4 =>
      some (((1 : Int32) &&& 1), h4))
    else
      (b_X2_takeNeed_14 h))
def b_X2_takeDigit_31 (h : MH) : Option (Int32 × MH) :=
  some (((0 : Int32) &&& 1), h)
def f_X2_takeDigit (h : MH) (x0 : Nat) (x1 : Int32) : Option (Int32 × MH) :=
  (hR h 2 x0 0).bind fun v1 =>
  (hI h 2 x0 2).bind fun v2 =>
  (aI h v1 v2).bind fun v3 =>
  (some ((v3 * (10 : Int32)) + x1)).bind fun v4 =>
  if v4 = 0 then
    (b_X2_takeDigit_31 h)
  else
    ((hI h 2 x0 2).bind fun v5 =>
    (rA 7 roM v5).bind fun v6 =>
    if v4 ≤ v6 then
      ((hR h 2 x0 0).bind fun v7 =>
      (hI h 2 x0 2).bind fun v8 =>
      (sI h v7 v8 v4).bind fun h9 =>
      some (((1 : Int32) &&& 1), h9))
    else
      (b_X2_takeDigit_31 h))
def b_X2_isNumberComplete_25 (h : MH) (s0 : Int32) : Option Int32 :=
  some (s0 &&& 1)
def f_X2_isNumberComplete (h : MH) (x0 : Nat) : Option Int32 :=
  (hR h 2 x0 0).bind fun v1 =>
  (hI h 2 x0 2).bind fun v2 =>
  (aI h v1 v2).bind fun v3 =>
  (hI h 2 x0 2).bind fun v4 =>
  (rA 7 roL v4).bind fun v5 =>
  if v3 < v5 then
    (b_X2_isNumberComplete_25 h (0 : Int32))
  else
    (b_X2_isNumberComplete_25 h (1 : Int32))
def f_X2_takePart (h : MH) (x0 : Nat) (x1 : Int32) : Option (Int32 × MH) :=
  (vcall h 2 x0 (f_X2_isNumberComplete h x0)).bind fun v1 =>
  if v1 = 0 then
    (some (((0 : Int32) &&& 1), h))
  else
    ((hP h 2 x0 2 (.int x1)).bind fun h2 =>
    some (((1 : Int32) &&& 1), h2))
def b_X2_isAtEndOfRail_21 (h : MH) (s0 : Int32) : Option Int32 :=
  some (s0 &&& 1)
def b_X2_isAtEndOfRail_42 (h : MH) (s0 : Int32) : Option Int32 :=
  some (s0 &&& 1)
def b_X2_isAtEndOfRail_41 (h : MH)  : Option Int32 :=
  b_X2_isAtEndOfRail_42 h (0 : Int32)
def f_X2_isAtEndOfRail (h : MH) (x0 : Nat) : Option Int32 :=
  (hI h 2 x0 2).bind fun v1 =>
  if v1 = (3 : Int32) then
    ((hI h 2 x0 3).bind fun v4 =>
    if v4 = (-1 : Int32) then
      (b_X2_isAtEndOfRail_21 h (0 : Int32))
    else
      (b_X2_isAtEndOfRail_21 h (1 : Int32)))
  else
    ((hI h 2 x0 2).bind fun v2 =>
    if v2 = (2 : Int32) then
      ((vcall h 2 x0 (f_X2_isNumberComplete h x0)).bind fun v3 =>
      if v3 = 0 then
        (b_X2_isAtEndOfRail_41 h )
      else
        (b_X2_isAtEndOfRail_42 h (1 : Int32)))
    else
      (b_X2_isAtEndOfRail_41 h ))
def b_X2_take_39 (h : MH) (s0 : Int32) : Option (Int32 × MH) :=
  some ((s0 &&& 1), h)
def b_X2_take_107 (h : MH) (s0 : Int32) : Option (Int32 × MH) :=
  some ((s0 &&& 1), h)
def b_X2_take_106 (h : MH) : Option (Int32 × MH) :=
  b_X2_take_107 h (0 : Int32)
def b_X2_take_79 (h : MH) (s0 : Int32) : Option (Int32 × MH) :=
  some ((s0 &&& 1), h)
def b_X2_take_78 (h : MH) : Option (Int32 × MH) :=
  b_X2_take_79 h (0 : Int32)
def b_X2_take_61 (h : MH) (x0 : Nat) : Option (Int32 × MH) :=
  (hI h 2 x0 2).bind fun v1 =>
  (vcall h 2 x0 (f_X2_takePart h x0 (v1 + (1 : Int32)))).bind fun p2 =>
  if p2.1 = 0 then
    (b_X2_take_78 p2.2)
  else
    (b_X2_take_79 p2.2 (1 : Int32))
def b_X2_take_127 (h : MH) : Option (Int32 × MH) :=
  some (((0 : Int32) &&& 1), h)
def b_X2_take_40 (h : MH) (x0 : Nat) (x1 : Int32) : Option (Int32 × MH) :=
  if x1 = (47 : Int32) then
    ((hI h 2 x0 2).bind fun v7 =>
    if v7 = 0 then
      (b_X2_take_61 h x0)
    else
      ((hI h 2 x0 2).bind fun v8 =>
      if v8 = (1 : Int32) then
        (b_X2_take_61 h x0)
      else
        (b_X2_take_78 h)))
  else
    (if x1 = (60 : Int32) then
      ((hI h 2 x0 2).bind fun v5 =>
      if v5 = (2 : Int32) then
        ((vcall h 2 x0 (f_X2_takePart h x0 (3 : Int32))).bind fun p6 =>
        if p6.1 = 0 then
          (b_X2_take_106 p6.2)
        else
          (b_X2_take_107 p6.2 (1 : Int32)))
      else
        (b_X2_take_106 h))
    else
      (if x1 = (59 : Int32) then
        ((vcall h 2 x0 (f_X2_isAtEndOfRail h x0)).bind fun v3 =>
        if v3 = 0 then
          (b_X2_take_127 h)
        else
          ((vcall h 2 x0 (f_X2_begin h x0)).bind fun h4 =>
          some (((1 : Int32) &&& 1), h4)))
      else
        (b_X2_take_127 h)))
def f_X2_take (h : MH) (x0 : Nat) (x1 : Int32) : Option (Int32 × MH) :=
  if x1 < (48 : Int32) then
    (b_X2_take_40 h x0 x1)
  else
    (if (57 : Int32) < x1 then
      (b_X2_take_40 h x0 x1)
    else
      ((hI h 2 x0 2).bind fun v9 =>
      if v9 = (3 : Int32) then
        ((vcall h 2 x0 (f_X2_takeNeed h x0 (x1 - (48 : Int32)))).bind fun p11 =>
        b_X2_take_39 p11.2 p11.1)
      else
        ((vcall h 2 x0 (f_X2_takeDigit h x0 (x1 - (48 : Int32)))).bind fun p10 =>
        b_X2_take_39 p10.2 p10.1)))
def f_X3_init (h : MH) (x0 : Nat) : Option MH :=
  (nO h 1 [.int 0, .int 0, .int 0, .int 0, .null, .null, .null, .null, .null, .null, .null, .null, .null, .null, .null, .null, .null, .null]).bind fun h1 =>
  (f_X1_init h1 (h.length)).bind fun h2 =>
  (hP h2 3 x0 0 (.ref (h.length))).bind fun h3 =>
  (nO h3 1 [.int 0, .int 0, .int 0, .int 0, .null, .null, .null, .null, .null, .null, .null, .null, .null, .null, .null, .null, .null, .null]).bind fun h4 =>
  (f_X1_init h4 (h3.length)).bind fun h5 =>
  (hP h5 3 x0 1 (.ref (h3.length))).bind fun h6 =>
  (nA h6 2 (6, .inr (.inr (.inr (.inr (fun _ => none)))))).bind fun h7 =>
  (hP h7 3 x0 2 (.ref (h6.length))).bind fun h8 =>
  (nA h8 0 (60, .inl (fun _ => 0))).bind fun h9 =>
  (hP h9 3 x0 4 (.ref (h8.length))).bind fun h10 =>
  (nO h10 2 [.null, .int 0, .int 0, .int 0]).bind fun h11 =>
  (f_X2_init h11 (h10.length)).bind fun h12 =>
  (hP h12 3 x0 6 (.ref (h10.length))).bind fun h13 =>
  (hR h13 3 x0 2).bind fun v14 =>
  (nO h13 1 [.int 0, .int 0, .int 0, .int 0, .null, .null, .null, .null, .null, .null, .null, .null, .null, .null, .null, .null, .null, .null]).bind fun h15 =>
  (f_X1_init h15 (h13.length)).bind fun h16 =>
  (sR h16 v14 (0 : Int32) (h13.length)).bind fun h17 =>
  (hR h17 3 x0 2).bind fun v18 =>
  (nO h17 1 [.int 0, .int 0, .int 0, .int 0, .null, .null, .null, .null, .null, .null, .null, .null, .null, .null, .null, .null, .null, .null]).bind fun h19 =>
  (f_X1_init h19 (h17.length)).bind fun h20 =>
  (sR h20 v18 (1 : Int32) (h17.length)).bind fun h21 =>
  (hR h21 3 x0 2).bind fun v22 =>
  (nO h21 1 [.int 0, .int 0, .int 0, .int 0, .null, .null, .null, .null, .null, .null, .null, .null, .null, .null, .null, .null, .null, .null]).bind fun h23 =>
  (f_X1_init h23 (h21.length)).bind fun h24 =>
  (sR h24 v22 (2 : Int32) (h21.length)).bind fun h25 =>
  (hR h25 3 x0 2).bind fun v26 =>
  (nO h25 1 [.int 0, .int 0, .int 0, .int 0, .null, .null, .null, .null, .null, .null, .null, .null, .null, .null, .null, .null, .null, .null]).bind fun h27 =>
  (f_X1_init h27 (h25.length)).bind fun h28 =>
  (sR h28 v26 (3 : Int32) (h25.length)).bind fun h29 =>
  (hR h29 3 x0 2).bind fun v30 =>
  (nO h29 1 [.int 0, .int 0, .int 0, .int 0, .null, .null, .null, .null, .null, .null, .null, .null, .null, .null, .null, .null, .null, .null]).bind fun h31 =>
  (f_X1_init h31 (h29.length)).bind fun h32 =>
  (sR h32 v30 (4 : Int32) (h29.length)).bind fun h33 =>
  (hR h33 3 x0 2).bind fun v34 =>
  (nO h33 1 [.int 0, .int 0, .int 0, .int 0, .null, .null, .null, .null, .null, .null, .null, .null, .null, .null, .null, .null, .null, .null]).bind fun h35 =>
  (f_X1_init h35 (h33.length)).bind fun h36 =>
  (sR h36 v34 (5 : Int32) (h33.length)).bind fun h37 =>
  some h37
def b_X3_isInRange_23 (h : MH) (s0 : Int32) : Option Int32 :=
  some (s0 &&& 1)
def b_X3_isInRange_22 (h : MH)  : Option Int32 :=
  b_X3_isInRange_23 h (0 : Int32)
def f_X3_isInRange (h : MH) (x0 : Int32) (x1 : Int32) : Option Int32 :=
  (rA 7 roL x0).bind fun v1 =>
  if x1 < v1 then
    (b_X3_isInRange_22 h )
  else
    ((rA 7 roM x0).bind fun v2 =>
    if v2 < x1 then
      (b_X3_isInRange_22 h )
    else
      (b_X3_isInRange_23 h (1 : Int32)))
def b_X3_areBelow_17 (h : MH) (s0 : Int32) : Option Int32 :=
  some (s0 &&& 1)
def f_X3_areBelow (h : MH) (x0 : Int32) (x1 : Int32) : Option Int32 :=
  if (x1 &&& ((((1 : Int32) <<< (x0 &&& 31)) - (1 : Int32)) ^^^ (-1 : Int32))) = 0 then
    (b_X3_areBelow_17 h (1 : Int32))
  else
    (b_X3_areBelow_17 h (0 : Int32))
def f_X3_areRails (h : MH) (x0 : Nat) (x1 : Int32) : Option Int32 :=
  (hR h 3 x0 0).bind fun v1 =>
  (hI h 1 v1 0).bind fun v2 =>
  (f_X3_areBelow h v2 x1).bind fun v3 =>
  some (v3 &&& 1)
def b_X3_dropOldestSaved_9 (rec9 : MH → Nat → Nat → Int32 → Option MH) (h : MH) (x0 : Nat) (x1 : Nat) (x2 : Int32) : Option MH :=
  if (6 : Int32) ≤ x2 then
    ((hR h 3 x0 2).bind fun v1 =>
    (sR h v1 (5 : Int32) x1).bind fun h2 =>
    (hP h2 3 x0 3 (.int (5 : Int32))).bind fun h3 =>
    some h3)
  else
    ((hR h 3 x0 2).bind fun v4 =>
    (hR h 3 x0 2).bind fun v5 =>
    (aR h v5 x2).bind fun v6 =>
    (sR h v4 (x2 - (1 : Int32)) v6).bind fun h7 =>
    rec9 h7 x0 x1 (x2 + (1 : Int32)))
def f_X3_dropOldestSaved_9 : Nat → MH → Nat → Nat → Int32 → Option MH
  | 0 => fun _ _ _ _ => none
  | n + 1 => fun h x0 x1 x2 => b_X3_dropOldestSaved_9 (f_X3_dropOldestSaved_9 n) h x0 x1 x2
def f_X3_dropOldestSaved (h : MH) (x0 : Nat) : Option MH :=
  (hR h 3 x0 2).bind fun v8 =>
  (aR h v8 (0 : Int32)).bind fun v9 =>
  f_X3_dropOldestSaved_9 FU h x0 v9 (1 : Int32)
def b_X3_save_13 (h : MH) (x0 : Nat) : Option MH :=
  (hR h 3 x0 2).bind fun v1 =>
  (hI h 3 x0 3).bind fun v2 =>
  (aR h v1 v2).bind fun v3 =>
  (hR h 3 x0 0).bind fun v4 =>
  (vcall h 1 v3 (f_X1_copyFrom h v3 v4)).bind fun h5 =>
  (hI h5 3 x0 3).bind fun v6 =>
  (hP h5 3 x0 3 (.int (v6 + (1 : Int32)))).bind fun h7 =>
  some h7
def f_X3_save (h : MH) (x0 : Nat) : Option MH :=
  (hI h 3 x0 3).bind fun v8 =>
  if v8 < (6 : Int32) then
    (b_X3_save_13 h x0)
  else
    ((vcall h 3 x0 (f_X3_dropOldestSaved h x0)).bind fun h9 =>
    b_X3_save_13 h9 x0)
def b_X3_addRail_24 (h : MH) : Option XR :=
  some (.inl (0, h))
def f_X3_addRail (h : MH) (x0 : Nat) (x1 : Int32) (x2 : Int32) (x3 : Int32) (x4 : Int32) : Option XR :=
  (f_X3_isInRange h (0 : Int32) x1).bind fun v1 =>
  if v1 = 0 then
    (b_X3_addRail_24 h)
  else
    ((f_X3_isInRange h (1 : Int32) x2).bind fun v2 =>
    if v2 = 0 then
      (b_X3_addRail_24 h)
    else
      ((f_X3_isInRange h (2 : Int32) x3).bind fun v3 =>
      if v3 = 0 then
        (b_X3_addRail_24 h)
      else
        ((vcall h 3 x0 (f_X3_areRails h x0 x4)).bind fun v4 =>
        if v4 = 0 then
          (some (.inl (0, h)))
        else
          ((hR h 3 x0 0).bind fun v5 =>
          (hI h 1 v5 0).bind fun v6 =>
          if v6 < (8 : Int32) then
            ((vcall h 3 x0 (f_X3_save h x0)).bind fun h7 =>
            (hR h7 3 x0 0).bind fun v8 =>
            (vcall h7 1 v8 (f_X1_add h7 v8 x1 x2 x3 x4)).bind fun h9 =>
            (hR h9 3 x0 0).bind fun v10 =>
            (hI h9 1 v10 0).bind fun v11 =>
            some (.inr ((v11 - (1 : Int32)), h9)))
          else
            (some (.inl (1, h)))))))
def b_X3_isRail_20 (h : MH) (s0 : Int32) : Option Int32 :=
  some (s0 &&& 1)
def b_X3_isRail_19 (h : MH)  : Option Int32 :=
  b_X3_isRail_20 h (0 : Int32)
def f_X3_isRail (h : MH) (x0 : Nat) (x1 : Int32) : Option Int32 :=
  if x1 < 0 then
    (b_X3_isRail_19 h )
  else
    ((hR h 3 x0 0).bind fun v1 =>
    (hI h 1 v1 0).bind fun v2 =>
    if v2 ≤ x1 then
      (b_X3_isRail_19 h )
    else
      (b_X3_isRail_20 h (1 : Int32)))
def b_X3_set_18 (h : MH) : Option XR :=
  some (.inl (2, h))
def f_X3_set (h : MH) (x0 : Nat) (x1 : Int32) (x2 : Int32) (x3 : Int32) : Option XR :=
  (vcall h 3 x0 (f_X3_isRail h x0 x1)).bind fun v1 =>
  if v1 = 0 then
    (b_X3_set_18 h)
  else
    (if x2 < 0 then
      (b_X3_set_18 h)
    else
      (if x2 < (7 : Int32) then
        ((f_X3_isInRange h x2 x3).bind fun v2 =>
        if v2 = 0 then
          (some (.inl (0, h)))
        else
          ((vcall h 3 x0 (f_X3_save h x0)).bind fun h3 =>
          (hR h3 3 x0 0).bind fun v4 =>
          (vcall h3 1 v4 (f_X1_propertyOf h3 v4 x1 x2)).bind fun v5 =>
          (hR h3 3 x0 0).bind fun v6 =>
          (hR h3 1 v6 4).bind fun v7 =>
          (sI h3 v7 ((x1 * (7 : Int32)) + x2) x3).bind fun h8 =>
          some (.inr (v5, h8))))
      else
        (b_X3_set_18 h)))
def b_X3_setNeeds_71 (h : MH) (x0 : Nat) (x1 : Int32) (x2 : Int32) : Option XR :=
  (vcall h 3 x0 (f_X3_save h x0)).bind fun h1 =>
  (hR h1 3 x0 0).bind fun v2 =>
  (hR h1 1 v2 5).bind fun v3 =>
  (aI h1 v3 x1).bind fun v4 =>
  (hR h1 3 x0 0).bind fun v5 =>
  (hR h1 1 v5 5).bind fun v6 =>
  (sI h1 v6 x1 x2).bind fun h7 =>
  some (.inr (v4, h7))
def f_X3_setNeeds (h : MH) (x0 : Nat) (x1 : Int32) (x2 : Int32) : Option XR :=
  (vcall h 3 x0 (f_X3_isRail h x0 x1)).bind fun v8 =>
  if v8 = 0 then
    (some (.inl (2, h)))
  else
    ((f_X3_areBelow h x1 x2).bind fun v9 =>
    if v9 = 0 then
      (some (.inl (0, h)))
    else
      ((hR h 3 x0 0).bind fun v10 =>
      (hR h 1 v10 6).bind fun v11 =>
      (aI h v11 x1).bind fun v12 =>
      if v12 = 0 then
        (b_X3_setNeeds_71 h x0 x1 x2)
      else
        ((hR h 3 x0 0).bind fun v13 =>
        (hR h 1 v13 6).bind fun v14 =>
        (aI h v14 x1).bind fun v15 =>
        if v15 = (5 : Int32) then
          (b_X3_setNeeds_71 h x0 x1 x2)
        else
          (some (.inl (1, h))))))
def b_X3_setResidue_11 (h : MH) : Option XR :=
  some (.inl (0, h))
def f_X3_setResidue (h : MH) (x0 : Nat) (x1 : Int32) : Option XR :=
  if x1 < 0 then
    (b_X3_setResidue_11 h)
  else
    (if x1 ≤ (500 : Int32) then
      ((vcall h 3 x0 (f_X3_save h x0)).bind fun h1 =>
      (hR h1 3 x0 0).bind fun v2 =>
      (hI h1 1 v2 2).bind fun v3 =>
      (hR h1 3 x0 0).bind fun v4 =>
      (hP h1 1 v4 2 (.int x1)).bind fun h5 =>
      some (.inr (v3, h5)))
    else
      (b_X3_setResidue_11 h))
def f_X3_on (h : MH) (x0 : Nat) (x1 : Int32) : Option XR :=
  (vcall h 3 x0 (f_X3_areRails h x0 x1)).bind fun v1 =>
  if v1 = 0 then
    (some (.inl (0, h)))
  else
    ((vcall h 3 x0 (f_X3_save h x0)).bind fun h2 =>
    (hR h2 3 x0 0).bind fun v3 =>
    (hI h2 1 v3 3).bind fun v4 =>
    (hR h2 3 x0 0).bind fun v5 =>
    (vcall h2 1 v5 (f_X1_withAllNeeded h2 v5 x1)).bind fun v6 =>
    (hP h2 1 v3 3 (.int (v4 ||| v6))).bind fun h7 =>
    (hR h7 3 x0 0).bind fun v8 =>
    (hI h7 1 v8 3).bind fun v9 =>
    some (.inr (v9, h7)))
def f_X3_off (h : MH) (x0 : Nat) (x1 : Int32) : Option XR :=
  (vcall h 3 x0 (f_X3_areRails h x0 x1)).bind fun v1 =>
  if v1 = 0 then
    (some (.inl (0, h)))
  else
    ((vcall h 3 x0 (f_X3_save h x0)).bind fun h2 =>
    (hR h2 3 x0 0).bind fun v3 =>
    (hI h2 1 v3 3).bind fun v4 =>
    (hR h2 3 x0 0).bind fun v5 =>
    (vcall h2 1 v5 (f_X1_withFollowers h2 v5 x1)).bind fun v6 =>
    (hP h2 1 v3 3 (.int (v4 &&& (v6 ^^^ (-1 : Int32))))).bind fun h7 =>
    (hR h7 3 x0 0).bind fun v8 =>
    (hI h7 1 v8 3).bind fun v9 =>
    some (.inr (v9, h7)))
def f_X3_restart (h : MH) (x0 : Nat) (x1 : Int32) : Option XR :=
  (vcall h 3 x0 (f_X3_isRail h x0 x1)).bind fun v1 =>
  if v1 = 0 then
    (some (.inl (2, h)))
  else
    ((hR h 3 x0 0).bind fun v2 =>
    (vcall h 1 v2 (f_X1_isWanted h v2 x1)).bind fun v3 =>
    if v3 = 0 then
      (some (.inl (1, h)))
    else
      ((vcall h 3 x0 (f_X3_save h x0)).bind fun h4 =>
      (hR h4 3 x0 0).bind fun v5 =>
      (vcall h4 1 v5 (f_X1_dropForRestart h4 v5 x1)).bind fun p6 =>
      some (.inr (p6.1, p6.2))))
def b_X3_shortCircuit_29 (h : MH) : Option XR :=
  some (.inl (0, h))
def f_X3_shortCircuit (h : MH) (x0 : Nat) (x1 : Int32) (x2 : Int32) : Option XR :=
  (vcall h 3 x0 (f_X3_isRail h x0 x1)).bind fun v1 =>
  if v1 = 0 then
    (some (.inl (2, h)))
  else
    (if x2 < 0 then
      (b_X3_shortCircuit_29 h)
    else
      (if x2 ≤ (500 : Int32) then
        ((vcall h 3 x0 (f_X3_save h x0)).bind fun h2 =>
        (hR h2 3 x0 0).bind fun v3 =>
        (hR h2 1 v3 9).bind fun v4 =>
        (aI h2 v4 x1).bind fun v5 =>
        (hR h2 3 x0 0).bind fun v6 =>
        (hR h2 1 v6 9).bind fun v7 =>
        (sI h2 v7 x1 x2).bind fun h8 =>
        some (.inr (v5, h8)))
      else
        (b_X3_shortCircuit_29 h)))
def b_X3_stick_27 (h : MH) : Option XR :=
  some (.inl (0, h))
def f_X3_stick (h : MH) (x0 : Nat) (x1 : Int32) (x2 : Int32) : Option XR :=
  (vcall h 3 x0 (f_X3_isRail h x0 x1)).bind fun v1 =>
  if v1 = 0 then
    (some (.inl (2, h)))
  else
    (if x2 < 0 then
      (b_X3_stick_27 h)
    else
      (if x2 ≤ (2 : Int32) then
        ((vcall h 3 x0 (f_X3_save h x0)).bind fun h2 =>
        (hR h2 3 x0 0).bind fun v3 =>
        (hR h2 1 v3 8).bind fun v4 =>
        (aI h2 v4 x1).bind fun v5 =>
        (hR h2 3 x0 0).bind fun v6 =>
        (hR h2 1 v6 8).bind fun v7 =>
        (sI h2 v7 x1 x2).bind fun h8 =>
        some (.inr (v5, h8)))
      else
        (b_X3_stick_27 h)))
def b_X3_tick_12 (h : MH) : Option XR :=
  some (.inl (0, h))
def b_X3_tick_55 (rec55 : MH → Nat → Int32 → Int32 → Int32 → Option XR) (h : MH) (x0 : Nat) (x1 : Int32) (x2 : Int32) (x3 : Int32) : Option XR :=
  if x1 ≤ x3 then
    (some (.inr (x2, h)))
  else
    ((hR h 3 x0 0).bind fun v1 =>
    (vcall h 1 v1 (f_X1_passTick h v1)).bind fun p2 =>
    (some (x2 + p2.1)).bind fun v3 =>
    rec55 p2.2 x0 x1 v3 (x3 + (1 : Int32)))
def f_X3_tick_55 : Nat → MH → Nat → Int32 → Int32 → Int32 → Option XR
  | 0 => fun _ _ _ _ _ => none
  | n + 1 => fun h x0 x1 x2 x3 => b_X3_tick_55 (f_X3_tick_55 n) h x0 x1 x2 x3
def f_X3_tick (h : MH) (x0 : Nat) (x1 : Int32) : Option XR :=
  if x1 < (1 : Int32) then
    (b_X3_tick_12 h)
  else
    (if x1 ≤ (200 : Int32) then
      ((hR h 3 x0 0).bind fun v4 =>
      (hI h 1 v4 1).bind fun v5 =>
      if (v5 + x1) ≤ (20000 : Int32) then
        ((vcall h 3 x0 (f_X3_save h x0)).bind fun h6 =>
        f_X3_tick_55 FU h6 x0 x1 (0 : Int32) (0 : Int32))
      else
        (some (.inl (1, h))))
    else
      (b_X3_tick_12 h))
def b_X3_append_12 (h : MH) : Option XR :=
  some (.inl (0, h))
def f_X3_append (h : MH) (x0 : Nat) (x1 : Int32) : Option XR :=
  if x1 < (33 : Int32) then
    (b_X3_append_12 h)
  else
    (if x1 ≤ (126 : Int32) then
      ((hI h 3 x0 5).bind fun v1 =>
      if v1 < (60 : Int32) then
        ((hR h 3 x0 4).bind fun v2 =>
        (hI h 3 x0 5).bind fun v3 =>
        (sI h v2 v3 x1).bind fun h4 =>
        (hI h4 3 x0 5).bind fun v5 =>
        (hP h4 3 x0 5 (.int (v5 + (1 : Int32)))).bind fun h6 =>
        (hI h6 3 x0 5).bind fun v7 =>
        some (.inr (v7, h6)))
      else
        (some (.inl (1, h))))
    else
      (b_X3_append_12 h))
def f_X3_clearBuffer (h : MH) (x0 : Nat) : Option (Int32 × MH) :=
  (hI h 3 x0 5).bind fun v1 =>
  (hP h 3 x0 5 (.int (0 : Int32))).bind fun h2 =>
  some (v1, h2)
def b_X3_readBuffer_9 (rec9 : MH → Nat → Int32 → Option (Int32 × MH)) (h : MH) (x0 : Nat) (x1 : Int32) : Option (Int32 × MH) :=
  (hI h 3 x0 5).bind fun v1 =>
  if v1 ≤ x1 then
    ((hI h 3 x0 5).bind fun v2 =>
    some (v2, h))
  else
    ((hR h 3 x0 6).bind fun v3 =>
    (hR h 3 x0 4).bind fun v4 =>
    (aI h v4 x1).bind fun v5 =>
    (vcall h 2 v3 (f_X2_take h v3 v5)).bind fun p6 =>
    if p6.1 = 0 then
      (some (x1, p6.2))
    else
      (rec9 p6.2 x0 (x1 + (1 : Int32))))
def f_X3_readBuffer_9 : Nat → MH → Nat → Int32 → Option (Int32 × MH)
  | 0 => fun _ _ _ => none
  | n + 1 => fun h x0 x1 => b_X3_readBuffer_9 (f_X3_readBuffer_9 n) h x0 x1
def f_X3_readBuffer (h : MH) (x0 : Nat) : Option (Int32 × MH) :=
  (hR h 3 x0 6).bind fun v7 =>
  (vcall h 2 v7 (f_X2_begin h v7)).bind fun h8 =>
  f_X3_readBuffer_9 FU h8 x0 (0 : Int32)
def f_X3_firstError (h : MH) (x0 : Nat) : Option (Int32 × MH) :=
  (vcall h 3 x0 (f_X3_readBuffer h x0)).bind fun p1 =>
  some (p1.1, p1.2)
def b_X3_addReadRailToFuture_32 (h : MH) : Option (Int32 × MH) :=
  some (((0 : Int32) &&& 1), h)
def f_X3_addReadRailToFuture (h : MH) (x0 : Nat) : Option (Int32 × MH) :=
  (hR h 3 x0 1).bind fun v1 =>
  (hI h 1 v1 0).bind fun v2 =>
  if (8 : Int32) ≤ v2 then
    (b_X3_addReadRailToFuture_32 h)
  else
    ((hR h 3 x0 1).bind fun v3 =>
    (hI h 1 v3 0).bind fun v4 =>
    (hR h 3 x0 6).bind fun v5 =>
    (hI h 2 v5 1).bind fun v6 =>
    (f_X3_areBelow h v4 v6).bind fun v7 =>
    if v7 = 0 then
      (b_X3_addReadRailToFuture_32 h)
    else
      ((hR h 3 x0 1).bind fun v8 =>
      (hR h 3 x0 6).bind fun v9 =>
      (hR h 2 v9 0).bind fun v10 =>
      (aI h v10 (0 : Int32)).bind fun v11 =>
      (hR h 3 x0 6).bind fun v12 =>
      (hR h 2 v12 0).bind fun v13 =>
      (aI h v13 (1 : Int32)).bind fun v14 =>
      (hR h 3 x0 6).bind fun v15 =>
      (hR h 2 v15 0).bind fun v16 =>
      (aI h v16 (2 : Int32)).bind fun v17 =>
      (hR h 3 x0 6).bind fun v18 =>
      (hI h 2 v18 1).bind fun v19 =>
      (vcall h 1 v8 (f_X1_add h v8 v11 v14 v17 v19)).bind fun h20 =>
      some (((1 : Int32) &&& 1), h20)))
def b_X3_addTextToFuture_48 (rec20 : MH → Nat → Int32 → Option (Int32 × MH)) (h : MH) (x0 : Nat) (x1 : Int32) : Option (Int32 × MH) :=
  (hR h 3 x0 6).bind fun v1 =>
  (hR h 3 x0 4).bind fun v2 =>
  (aI h v2 x1).bind fun v3 =>
  (vcall h 2 v1 (f_X2_take h v1 v3)).bind fun p4 =>
  rec20 p4.2 x0 (x1 + (1 : Int32))
def b_X3_addTextToFuture_20 (rec20 : MH → Nat → Int32 → Option (Int32 × MH)) (h : MH) (x0 : Nat) (x1 : Int32) : Option (Int32 × MH) :=
  (hI h 3 x0 5).bind fun v5 =>
  if v5 ≤ x1 then
    ((vcall h 3 x0 (f_X3_addReadRailToFuture h x0)).bind fun p6 =>
    some ((p6.1 &&& 1), p6.2))
  else
    ((hR h 3 x0 4).bind fun v7 =>
    (aI h v7 x1).bind fun v8 =>
    if v8 = (59 : Int32) then
      ((vcall h 3 x0 (f_X3_addReadRailToFuture h x0)).bind fun p9 =>
      if p9.1 = 0 then
        (some (((0 : Int32) &&& 1), p9.2))
      else
        (b_X3_addTextToFuture_48 rec20 p9.2 x0 x1))
    else
      (b_X3_addTextToFuture_48 rec20 h x0 x1))
def f_X3_addTextToFuture_20 : Nat → MH → Nat → Int32 → Option (Int32 × MH)
  | 0 => fun _ _ _ => none
  | n + 1 => fun h x0 x1 => b_X3_addTextToFuture_20 (f_X3_addTextToFuture_20 n) h x0 x1
def f_X3_addTextToFuture (h : MH) (x0 : Nat) : Option (Int32 × MH) :=
  (hR h 3 x0 1).bind fun v10 =>
  (hR h 3 x0 0).bind fun v11 =>
  (vcall h 1 v10 (f_X1_copyFrom h v10 v11)).bind fun h12 =>
  (hR h12 3 x0 6).bind fun v13 =>
  (vcall h12 2 v13 (f_X2_begin h12 v13)).bind fun h14 =>
  f_X3_addTextToFuture_20 FU h14 x0 (0 : Int32)
def b_X3_load_21 (h : MH) : Option XR :=
  some (.inl (0, h))
def f_X3_load (h : MH) (x0 : Nat) : Option XR :=
  (vcall h 3 x0 (f_X3_readBuffer h x0)).bind fun p1 =>
  (hI p1.2 3 x0 5).bind fun v2 =>
  if p1.1 < v2 then
    (b_X3_load_21 p1.2)
  else
    ((hR p1.2 3 x0 6).bind fun v3 =>
    (vcall p1.2 2 v3 (f_X2_isAtEndOfRail p1.2 v3)).bind fun v4 =>
    if v4 = 0 then
      (b_X3_load_21 p1.2)
    else
      ((vcall p1.2 3 x0 (f_X3_addTextToFuture p1.2 x0)).bind fun p5 =>
      if p5.1 = 0 then
        (some (.inl (1, p5.2)))
      else
        ((vcall p5.2 3 x0 (f_X3_save p5.2 x0)).bind fun h6 =>
        (hR h6 3 x0 0).bind fun v7 =>
        (hR h6 3 x0 1).bind fun v8 =>
        (vcall h6 1 v7 (f_X1_copyFrom h6 v7 v8)).bind fun h9 =>
        (hP h9 3 x0 5 (.int (0 : Int32))).bind fun h10 =>
        (hR h10 3 x0 0).bind fun v11 =>
        (hI h10 1 v11 0).bind fun v12 =>
        some (.inr (v12, h10)))))
def f_X3_undo (h : MH) (x0 : Nat) : Option XR :=
  (hI h 3 x0 3).bind fun v1 =>
  if 0 < v1 then
    ((hI h 3 x0 3).bind fun v2 =>
    (hP h 3 x0 3 (.int (v2 - (1 : Int32)))).bind fun h3 =>
    (hR h3 3 x0 0).bind fun v4 =>
    (hR h3 3 x0 2).bind fun v5 =>
    (hI h3 3 x0 3).bind fun v6 =>
    (aR h3 v5 v6).bind fun v7 =>
    (vcall h3 1 v4 (f_X1_copyFrom h3 v4 v7)).bind fun h8 =>
    (hI h8 3 x0 3).bind fun v9 =>
    some (.inr (v9, h8)))
  else
    (some (.inl (1, h)))
def b_X3_rail_28 (h : MH) : Option XR :=
  some (.inl (0, h))
def f_X3_rail (h : MH) (x0 : Nat) (x1 : Int32) (x2 : Int32) : Option XR :=
  (vcall h 3 x0 (f_X3_isRail h x0 x1)).bind fun v1 =>
  if v1 = 0 then
    (some (.inl (2, h)))
  else
    (if x2 < 0 then
      (b_X3_rail_28 h)
    else
      (if x2 < (19 : Int32) then
        ((hR h 3 x0 0).bind fun v2 =>
        (vcall h 1 v2 (f_X1_numberOf h v2 x1 x2)).bind fun v3 =>
        some (.inr (v3, h)))
      else
        (b_X3_rail_28 h)))
def b_X3_account_27 (h : MH) : Option XR :=
  some (.inl (0, h))
def f_X3_account (h : MH) (x0 : Nat) (x1 : Int32) (x2 : Int32) : Option XR :=
  (vcall h 3 x0 (f_X3_isRail h x0 x1)).bind fun v1 =>
  if v1 = 0 then
    (some (.inl (2, h)))
  else
    (if x2 < 0 then
      (b_X3_account_27 h)
    else
      (if x2 < (4 : Int32) then
        ((hR h 3 x0 0).bind fun v2 =>
        (hR h 1 v2 13).bind fun v3 =>
        (aI h v3 ((x1 * (4 : Int32)) + x2)).bind fun v4 =>
        some (.inr (v4, h)))
      else
        (b_X3_account_27 h)))
def b_X3_entry_19 (h : MH) : Option XR :=
  some (.inl (0, h))
def b_X3_entry_59 (h : MH) (s0 : Int32) : Option XR :=
  some (.inr (s0, h))
def f_X3_entry (h : MH) (x0 : Nat) (x1 : Int32) (x2 : Int32) : Option XR :=
  if x1 < 0 then
    (b_X3_entry_19 h)
  else
    (if (16 : Int32) ≤ x1 then
      (b_X3_entry_19 h)
    else
      (if x2 < 0 then
        (b_X3_entry_19 h)
      else
        (if x2 < (4 : Int32) then
          ((hR h 3 x0 0).bind fun v1 =>
          (hR h 1 v1 14).bind fun v2 =>
          (hI h 0 v2 1).bind fun v3 =>
          if v3 ≤ x1 then
            (b_X3_entry_59 h (-1 : Int32))
          else
            ((hR h 3 x0 0).bind fun v4 =>
            (hR h 1 v4 14).bind fun v5 =>
            (vcall h 0 v5 (f_X0_numberAt h v5 x1 x2)).bind fun v6 =>
            b_X3_entry_59 h v6))
        else
          (b_X3_entry_19 h))))
def f_X3_forget (h : MH) (x0 : Nat) (x1 : Int32) : Option XR :=
  (vcall h 3 x0 (f_X3_isRail h x0 x1)).bind fun v1 =>
  if v1 = 0 then
    (some (.inl (2, h)))
  else
    ((vcall h 3 x0 (f_X3_save h x0)).bind fun h2 =>
    (hR h2 3 x0 0).bind fun v3 =>
    (hR h2 1 v3 14).bind fun v4 =>
    (vcall h2 0 v4 (f_X0_removeRail h2 v4 x1)).bind fun p5 =>
    some (.inr (p5.1, p5.2)))
def b_X3_countOf_160 (h : MH) (s0 : Int32) : Option (Int32 × MH) :=
  some (s0, h)
def f_X3_countOf (h : MH) (x0 : Nat) (x1 : Int32) : Option (Int32 × MH) :=
  if x1 = 0 then
  ((hR h 3 x0 0).bind fun v1 =>
  (hI h 1 v1 0).bind fun v2 =>
  some (v2, h))
 else
  if x1 = 1 then
  ((hR h 3 x0 0).bind fun v3 =>
  (hI h 1 v3 1).bind fun v4 =>
  some (v4, h))
 else
  if x1 = 2 then
  ((hR h 3 x0 0).bind fun v5 =>
  (hI h 1 v5 2).bind fun v6 =>
  some (v6, h))
 else
  if x1 = 3 then
  ((hR h 3 x0 0).bind fun v7 =>
  (hI h 1 v7 3).bind fun v8 =>
  some (v8, h))
 else
  if x1 = 4 then
  ((hR h 3 x0 0).bind fun v9 =>
  (vcall h 1 v9 (f_X1_maskOf h v9 (3 : Int32))).bind fun v10 =>
  some (v10, h))
 else
  if x1 = 5 then
  ((hR h 3 x0 0).bind fun v11 =>
  (vcall h 1 v11 (f_X1_maskOf h v11 (5 : Int32))).bind fun v12 =>
  some (v12, h))
 else
  if x1 = 6 then
  ((hR h 3 x0 0).bind fun v13 =>
  (hR h 1 v13 14).bind fun v14 =>
  (hI h 0 v14 1).bind fun v15 =>
  some (v15, h))
 else
  if x1 = 7 then
  ((hR h 3 x0 0).bind fun v16 =>
  (vcall h 1 v16 (f_X1_sumOfVoltages h v16)).bind fun v17 =>
  some (v17, h))
 else
  if x1 = 8 then
  ((hI h 3 x0 3).bind fun v18 =>
  some (v18, h))
 else
  ((hR h 3 x0 1).bind fun v19 =>
  (hR h 3 x0 0).bind fun v20 =>
  (vcall h 1 v19 (f_X1_copyFrom h v19 v20)).bind fun h21 =>
  (hR h21 3 x0 1).bind fun v22 =>
  (vcall h21 1 v22 (f_X1_passTick h21 v22)).bind fun p23 =>
  (hR p23.2 3 x0 1).bind fun v24 =>
  (vcall p23.2 1 v24 (f_X1_wasStill p23.2 v24)).bind fun v25 =>
  if v25 = 0 then
    (b_X3_countOf_160 p23.2 (0 : Int32))
  else
    (b_X3_countOf_160 p23.2 (1 : Int32)))
def b_X3_count_10 (h : MH) : Option XR :=
  some (.inl (0, h))
def f_X3_count (h : MH) (x0 : Nat) (x1 : Int32) : Option XR :=
  if x1 < 0 then
    (b_X3_count_10 h)
  else
    (if x1 < (10 : Int32) then
      ((vcall h 3 x0 (f_X3_countOf h x0 x1)).bind fun p1 =>
      some (.inr (p1.1, p1.2)))
    else
      (b_X3_count_10 h))
def b_X3_allGoodIn_83 (rec13 : MH → Nat → Int32 → Option (Int32 × MH)) (h : MH) (x0 : Nat) (x1 : Int32) : Option (Int32 × MH) :=
  rec13 h x0 (x1 + (1 : Int32))
def b_X3_allGoodIn_58 (rec13 : MH → Nat → Int32 → Option (Int32 × MH)) (h : MH) (x0 : Nat) (x1 : Int32) (s0 : Int32) : Option (Int32 × MH) :=
  (hR h 3 x0 1).bind fun v1 =>
  (vcall h 1 v1 (f_X1_passTick h v1)).bind fun p2 =>
  if s0 = 0 then
    (b_X3_allGoodIn_83 rec13 p2.2 x0 x1)
  else
    ((hR p2.2 3 x0 1).bind fun v3 =>
    (vcall p2.2 1 v3 (f_X1_wasStill p2.2 v3)).bind fun v4 =>
    if v4 = 0 then
      (b_X3_allGoodIn_83 rec13 p2.2 x0 x1)
    else
      (some ((-1 : Int32), p2.2)))
def b_X3_allGoodIn_13 (rec13 : MH → Nat → Int32 → Option (Int32 × MH)) (h : MH) (x0 : Nat) (x1 : Int32) : Option (Int32 × MH) :=
  if (1000 : Int32) < x1 then
    (some ((-1 : Int32), h))
  else
    ((hR h 3 x0 1).bind fun v5 =>
    (hI h 1 v5 3).bind fun v6 =>
    (hR h 3 x0 1).bind fun v7 =>
    (vcall h 1 v7 (f_X1_maskOf h v7 (3 : Int32))).bind fun v8 =>
    if (v6 &&& (v8 ^^^ (-1 : Int32))) = 0 then
      (some (x1, h))
    else
      ((hR h 3 x0 1).bind fun v9 =>
      (vcall h 1 v9 (f_X1_isAnyShorted h v9)).bind fun v10 =>
      if v10 = 0 then
        (b_X3_allGoodIn_58 rec13 h x0 x1 (1 : Int32))
      else
        (b_X3_allGoodIn_58 rec13 h x0 x1 (0 : Int32))))
def f_X3_allGoodIn_13 : Nat → MH → Nat → Int32 → Option (Int32 × MH)
  | 0 => fun _ _ _ => none
  | n + 1 => fun h x0 x1 => b_X3_allGoodIn_13 (f_X3_allGoodIn_13 n) h x0 x1
def f_X3_allGoodIn (h : MH) (x0 : Nat) : Option (Int32 × MH) :=
  (hR h 3 x0 1).bind fun v11 =>
  (hR h 3 x0 0).bind fun v12 =>
  (vcall h 1 v11 (f_X1_copyFrom h v11 v12)).bind fun h13 =>
  f_X3_allGoodIn_13 FU h13 x0 (0 : Int32)
def b_X3_allOffIn_21 (rec21 : MH → Nat → Int32 → Option (Int32 × MH)) (h : MH) (x0 : Nat) (x1 : Int32) : Option (Int32 × MH) :=
  if (1000 : Int32) < x1 then
    (some ((-1 : Int32), h))
  else
    ((hR h 3 x0 1).bind fun v1 =>
    (vcall h 1 v1 (f_X1_isAllOff h v1)).bind fun v2 =>
    if v2 = 0 then
      ((hR h 3 x0 1).bind fun v3 =>
      (vcall h 1 v3 (f_X1_passTick h v3)).bind fun p4 =>
      rec21 p4.2 x0 (x1 + (1 : Int32)))
    else
      (some (x1, h)))
def f_X3_allOffIn_21 : Nat → MH → Nat → Int32 → Option (Int32 × MH)
  | 0 => fun _ _ _ => none
  | n + 1 => fun h x0 x1 => b_X3_allOffIn_21 (f_X3_allOffIn_21 n) h x0 x1
def f_X3_allOffIn (h : MH) (x0 : Nat) : Option (Int32 × MH) :=
  (hR h 3 x0 1).bind fun v5 =>
  (hR h 3 x0 0).bind fun v6 =>
  (vcall h 1 v5 (f_X1_copyFrom h v5 v6)).bind fun h7 =>
  (hR h7 3 x0 1).bind fun v8 =>
  (hP h7 1 v8 3 (.int (0 : Int32))).bind fun h9 =>
  f_X3_allOffIn_21 FU h9 x0 (0 : Int32)
def b_X3_ifShort_39 (h : MH) : Option XR :=
  some (.inl (0, h))
def b_X3_ifShort_130 (h : MH) (s0 : Nat) (s1 : Int32) : Option XR :=
  (vcall h 1 s0 (f_X1_maskOf h s0 s1)).bind fun v1 =>
  some (.inr (v1, h))
def b_X3_ifShort_76 (rec76 : MH → Nat → Int32 → Int32 → Int32 → Option XR) (h : MH) (x0 : Nat) (x3 : Int32) (x4 : Int32) (x5 : Int32) : Option XR :=
  if (100 : Int32) ≤ x5 then
    (if x3 = 0 then
      (some (.inr (x4, h)))
    else
      ((hR h 3 x0 1).bind fun v2 =>
      if x3 = (1 : Int32) then
        (b_X3_ifShort_130 h v2 (3 : Int32))
      else
        (b_X3_ifShort_130 h v2 (5 : Int32))))
  else
    ((hR h 3 x0 1).bind fun v3 =>
    (vcall h 1 v3 (f_X1_passTick h v3)).bind fun p4 =>
    (hR p4.2 3 x0 1).bind fun v5 =>
    (vcall p4.2 1 v5 (f_X1_justDropped p4.2 v5)).bind fun v6 =>
    (some (x4 ||| v6)).bind fun v7 =>
    rec76 p4.2 x0 x3 v7 (x5 + (1 : Int32)))
def f_X3_ifShort_76 : Nat → MH → Nat → Int32 → Int32 → Int32 → Option XR
  | 0 => fun _ _ _ _ _ => none
  | n + 1 => fun h x0 x3 x4 x5 => b_X3_ifShort_76 (f_X3_ifShort_76 n) h x0 x3 x4 x5
def f_X3_ifShort (h : MH) (x0 : Nat) (x1 : Int32) (x2 : Int32) (x3 : Int32) : Option XR :=
  (vcall h 3 x0 (f_X3_isRail h x0 x1)).bind fun v8 =>
  if v8 = 0 then
    (some (.inl (2, h)))
  else
    (if x2 < (1 : Int32) then
      (b_X3_ifShort_39 h)
    else
      (if (500 : Int32) < x2 then
        (b_X3_ifShort_39 h)
      else
        (if x3 < 0 then
          (b_X3_ifShort_39 h)
        else
          (if x3 ≤ (2 : Int32) then
            ((hR h 3 x0 1).bind fun v9 =>
            (hR h 3 x0 0).bind fun v10 =>
            (vcall h 1 v9 (f_X1_copyFrom h v9 v10)).bind fun h11 =>
            (hR h11 3 x0 1).bind fun v12 =>
            (hR h11 1 v12 9).bind fun v13 =>
            (sI h11 v13 x1 x2).bind fun h14 =>
            f_X3_ifShort_76 FU h14 x0 x3 (0 : Int32) (0 : Int32))
          else
            (b_X3_ifShort_39 h)))))
def f_X3_leastPatience (h : MH) (x0 : Nat) (x1 : Int32) : Option XR :=
  (vcall h 3 x0 (f_X3_isRail h x0 x1)).bind fun v1 =>
  if v1 = 0 then
    (some (.inl (2, h)))
  else
    ((hR h 3 x0 0).bind fun v2 =>
    (vcall h 1 v2 (f_X1_leastPatienceOf h v2 x1)).bind fun v3 =>
    some (.inr (v3, h)))
def b_X3_goodShare_26 (h : MH) (rec26 : Nat → Int32 → Int32 → Int32 → Option UInt64) (x0 : Nat) (x1 : Int32) (x2 : Int32) (x3 : Int32) : Option UInt64 :=
  (hR h 3 x0 0).bind fun v1 =>
  (hI h 1 v1 0).bind fun v2 =>
  if v2 ≤ x3 then
    ((fddiv (FP.i2d x2) (FP.i2d x1)).bind fun v3 =>
    some v3)
  else
    ((hR h 3 x0 0).bind fun v4 =>
    (hR h 1 v4 13).bind fun v5 =>
    (aI h v5 ((x3 * (4 : Int32)) + (3 : Int32))).bind fun v6 =>
    (some (x2 + v6)).bind fun v7 =>
    rec26 x0 x1 v7 (x3 + (1 : Int32)))
def f_X3_goodShare_26 (h : MH) : Nat → Nat → Int32 → Int32 → Int32 → Option UInt64
  | 0 => fun _ _ _ _ => none
  | n + 1 => fun x0 x1 x2 x3 => b_X3_goodShare_26 h (f_X3_goodShare_26 h n) x0 x1 x2 x3
def f_X3_goodShare (h : MH) (x0 : Nat) : Option UInt64 :=
  (hR h 3 x0 0).bind fun v8 =>
  (hI h 1 v8 1).bind fun v9 =>
  (hR h 3 x0 0).bind fun v10 =>
  (hI h 1 v10 0).bind fun v11 =>
  (some (v9 * v11)).bind fun v12 =>
  if v12 = 0 then
    (some (0 : UInt64))
  else
    (f_X3_goodShare_26 h FU x0 v12 (0 : Int32) (0 : Int32))
def b_X3_hashOfRail_42 (h : MH) (rec42 : Nat → Int32 → Int64 → Int32 → Option Int64) (x0 : Nat) (x3 : Int32) (x4 : Int64) (x6 : Int32) : Option Int64 :=
  if (4 : Int32) ≤ x6 then
    ((hR h 3 x0 0).bind fun v1 =>
    (vcall h 1 v1 (f_X1_leastPatienceOf h v1 x3)).bind fun v2 =>
    some (((31 : Int64) * x4) + (Int32.toInt64 v2)))
  else
    ((hR h 3 x0 0).bind fun v3 =>
    (hR h 1 v3 13).bind fun v4 =>
    (aI h v4 ((x3 * (4 : Int32)) + x6)).bind fun v5 =>
    (some (((31 : Int64) * x4) + (Int32.toInt64 v5))).bind fun v6 =>
    rec42 x0 x3 v6 (x6 + (1 : Int32)))
def f_X3_hashOfRail_42 (h : MH) : Nat → Nat → Int32 → Int64 → Int32 → Option Int64
  | 0 => fun _ _ _ _ => none
  | n + 1 => fun x0 x3 x4 x6 => b_X3_hashOfRail_42 h (f_X3_hashOfRail_42 h n) x0 x3 x4 x6
def b_X3_hashOfRail_6 (h : MH) (rec6 : Nat → Int32 → Int64 → Int32 → Option Int64) (x0 : Nat) (x3 : Int32) (x4 : Int64) (x6 : Int32) : Option Int64 :=
  if (19 : Int32) ≤ x6 then
    (f_X3_hashOfRail_42 h FU x0 x3 x4 (0 : Int32))
  else
    ((hR h 3 x0 0).bind fun v7 =>
    (vcall h 1 v7 (f_X1_numberOf h v7 x3 x6)).bind fun v8 =>
    (some (((31 : Int64) * x4) + (Int32.toInt64 v8))).bind fun v9 =>
    rec6 x0 x3 v9 (x6 + (1 : Int32)))
def f_X3_hashOfRail_6 (h : MH) : Nat → Nat → Int32 → Int64 → Int32 → Option Int64
  | 0 => fun _ _ _ _ => none
  | n + 1 => fun x0 x3 x4 x6 => b_X3_hashOfRail_6 h (f_X3_hashOfRail_6 h n) x0 x3 x4 x6
def f_X3_hashOfRail (h : MH) (x0 : Nat) (x1 : Int64) (x3 : Int32) : Option Int64 :=
  f_X3_hashOfRail_6 h FU x0 x3 x1 (0 : Int32)
def b_X3_hashOfLog_23 (h : MH) (rec5 : Nat → Int64 → Int32 → Option Int64) (rec23 : Nat → Int64 → Int32 → Int32 → Option Int64) (x0 : Nat) (x3 : Int64) (x5 : Int32) (x6 : Int32) : Option Int64 :=
  if (4 : Int32) ≤ x6 then
    (rec5 x0 x3 (x5 + (1 : Int32)))
  else
    ((hR h 3 x0 0).bind fun v1 =>
    (hR h 1 v1 14).bind fun v2 =>
    (vcall h 0 v2 (f_X0_numberAt h v2 x5 x6)).bind fun v3 =>
    (some (((31 : Int64) * x3) + (Int32.toInt64 v3))).bind fun v4 =>
    rec23 x0 v4 x5 (x6 + (1 : Int32)))
def f_X3_hashOfLog_23 (h : MH) (rec5 : Nat → Int64 → Int32 → Option Int64) : Nat → Nat → Int64 → Int32 → Int32 → Option Int64
  | 0 => fun _ _ _ _ => none
  | n + 1 => fun x0 x3 x5 x6 => b_X3_hashOfLog_23 h rec5 (f_X3_hashOfLog_23 h rec5 n) x0 x3 x5 x6
def b_X3_hashOfLog_5 (h : MH) (rec5 : Nat → Int64 → Int32 → Option Int64) (x0 : Nat) (x3 : Int64) (x5 : Int32) : Option Int64 :=
  (hR h 3 x0 0).bind fun v5 =>
  (hR h 1 v5 14).bind fun v6 =>
  (hI h 0 v6 1).bind fun v7 =>
  if v7 ≤ x5 then
    (some x3)
  else
    (f_X3_hashOfLog_23 h rec5 FU x0 x3 x5 (0 : Int32))
def f_X3_hashOfLog_5 (h : MH) : Nat → Nat → Int64 → Int32 → Option Int64
  | 0 => fun _ _ _ => none
  | n + 1 => fun x0 x3 x5 => b_X3_hashOfLog_5 h (f_X3_hashOfLog_5 h n) x0 x3 x5
def f_X3_hashOfLog (h : MH) (x0 : Nat) (x1 : Int64) : Option Int64 :=
  f_X3_hashOfLog_5 h FU x0 x1 (0 : Int32)
def b_X3_bitsOfShare_50 (h : MH) (x2 : UInt64) (x4 : Int64) : Option Int64 :=
  (fdsub x2 (4607182418800017408 : UInt64)).bind fun v1 =>
  (fdmul v1 (4841369599423283200 : UInt64)).bind fun v2 =>
  (some (FP.d2l v2)).bind fun v3 =>
  some ((x4 <<< ((Int32.toInt64 (52 : Int32)) &&& 63)) + v3)
def b_X3_bitsOfShare_18 (h : MH) (rec18 : UInt64 → Int64 → Int32 → Option Int64) (x2 : UInt64) (x4 : Int64) (x6 : Int32) : Option Int64 :=
  if (1022 : Int32) ≤ x6 then
    (b_X3_bitsOfShare_50 h x2 x4)
  else
    (if 0 ≤ (Op.cmpValue (FP.dcmp x2 (4607182418800017408 : UInt64)) .g) then
      (b_X3_bitsOfShare_50 h x2 x4)
    else
      ((fdmul x2 (4611686018427387904 : UInt64)).bind fun v4 =>
      (some (x4 - (1 : Int64))).bind fun v5 =>
      rec18 v4 v5 (x6 + (1 : Int32))))
def f_X3_bitsOfShare_18 (h : MH) : Nat → UInt64 → Int64 → Int32 → Option Int64
  | 0 => fun _ _ _ => none
  | n + 1 => fun x2 x4 x6 => b_X3_bitsOfShare_18 h (f_X3_bitsOfShare_18 h n) x2 x4 x6
def f_X3_bitsOfShare (h : MH) (x0 : UInt64) : Option Int64 :=
  if 0 < (Op.cmpValue (FP.dcmp x0 (0 : UInt64)) .g) then
    (f_X3_bitsOfShare_18 h FU x0 (1023 : Int64) (0 : Int32))
  else
    (some (0 : Int64))
def b_X3_hashOfBuffer_15 (h : MH) (rec15 : Nat → Int64 → Int32 → Option Int64) (x0 : Nat) (x3 : Int64) (x5 : Int32) : Option Int64 :=
  (hI h 3 x0 5).bind fun v1 =>
  if v1 ≤ x5 then
    (some x3)
  else
    ((hR h 3 x0 4).bind fun v2 =>
    (aI h v2 x5).bind fun v3 =>
    (some (((31 : Int64) * x3) + (Int32.toInt64 v3))).bind fun v4 =>
    rec15 x0 v4 (x5 + (1 : Int32)))
def f_X3_hashOfBuffer_15 (h : MH) : Nat → Nat → Int64 → Int32 → Option Int64
  | 0 => fun _ _ _ => none
  | n + 1 => fun x0 x3 x5 => b_X3_hashOfBuffer_15 h (f_X3_hashOfBuffer_15 h n) x0 x3 x5
def f_X3_hashOfBuffer (h : MH) (x0 : Nat) (x1 : Int64) : Option Int64 :=
  (hI h 3 x0 5).bind fun v5 =>
  (some (((31 : Int64) * x1) + (Int32.toInt64 v5))).bind fun v6 =>
  f_X3_hashOfBuffer_15 h FU x0 v6 (0 : Int32)
def b_X3_digest_33 (rec33 : MH → Nat → Int64 → Int32 → Option (Int64 × MH)) (h : MH) (x0 : Nat) (x1 : Int64) (x3 : Int32) : Option (Int64 × MH) :=
  (hR h 3 x0 0).bind fun v1 =>
  (hI h 1 v1 0).bind fun v2 =>
  if v2 ≤ x3 then
    ((vcall h 3 x0 (f_X3_hashOfLog h x0 x1)).bind fun v3 =>
    (vcall h 3 x0 (f_X3_allGoodIn h x0)).bind fun p4 =>
    (some (((31 : Int64) * v3) + (Int32.toInt64 p4.1))).bind fun v5 =>
    (vcall p4.2 3 x0 (f_X3_allOffIn p4.2 x0)).bind fun p6 =>
    (some (((31 : Int64) * v5) + (Int32.toInt64 p6.1))).bind fun v7 =>
    (vcall p6.2 3 x0 (f_X3_goodShare p6.2 x0)).bind fun v8 =>
    (f_X3_bitsOfShare p6.2 v8).bind fun v9 =>
    (some (((31 : Int64) * v7) + v9)).bind fun v10 =>
    (vcall p6.2 3 x0 (f_X3_hashOfBuffer p6.2 x0 v10)).bind fun v11 =>
    some (v11, p6.2))
  else
    ((vcall h 3 x0 (f_X3_hashOfRail h x0 x1 x3)).bind fun v12 =>
    rec33 h x0 v12 (x3 + (1 : Int32)))
def f_X3_digest_33 : Nat → MH → Nat → Int64 → Int32 → Option (Int64 × MH)
  | 0 => fun _ _ _ _ => none
  | n + 1 => fun h x0 x1 x3 => b_X3_digest_33 (f_X3_digest_33 n) h x0 x1 x3
def b_X3_digest_6 (rec6 : MH → Nat → Int64 → Int32 → Option (Int64 × MH)) (h : MH) (x0 : Nat) (x1 : Int64) (x3 : Int32) : Option (Int64 × MH) :=
  if (10 : Int32) ≤ x3 then
    (f_X3_digest_33 FU h x0 x1 (0 : Int32))
  else
    ((vcall h 3 x0 (f_X3_countOf h x0 x3)).bind fun p13 =>
    (some (((31 : Int64) * x1) + (Int32.toInt64 p13.1))).bind fun v14 =>
    rec6 p13.2 x0 v14 (x3 + (1 : Int32)))
def f_X3_digest_6 : Nat → MH → Nat → Int64 → Int32 → Option (Int64 × MH)
  | 0 => fun _ _ _ _ => none
  | n + 1 => fun h x0 x1 x3 => b_X3_digest_6 (f_X3_digest_6 n) h x0 x1 x3
def f_X3_digest (h : MH) (x0 : Nat) : Option (Int64 × MH) :=
  f_X3_digest_6 FU h x0 (2179 : Int64) (0 : Int32)
def f_X4_init (h : MH) (x0 : Nat) : Option MH :=
  (nA h 0 (228, .inl (fun _ => 0))).bind fun h1 =>
  (hP h1 4 x0 1 (.ref (h.length))).bind fun h2 =>
  (nA h2 0 (1368, .inl (fun _ => 0))).bind fun h3 =>
  (hP h3 4 x0 3 (.ref (h2.length))).bind fun h4 =>
  (nA h4 0 (60, .inl (fun _ => 0))).bind fun h5 =>
  (hP h5 4 x0 5 (.ref (h4.length))).bind fun h6 =>
  (nA h6 0 (8, .inl (fun _ => 0))).bind fun h7 =>
  (hP h7 4 x0 8 (.ref (h6.length))).bind fun h8 =>
  (nA h8 0 (228, .inl (fun _ => 0))).bind fun h9 =>
  (hP h9 4 x0 9 (.ref (h8.length))).bind fun h10 =>
  (nA h10 0 (64, .inl (fun _ => 0))).bind fun h11 =>
  (hP h11 4 x0 14 (.ref (h10.length))).bind fun h12 =>
  (hR h12 4 x0 1).bind fun v13 =>
  (sI h12 v13 (1 : Int32) (100 : Int32)).bind fun h14 =>
  some h14
def f_X4_thrown (h : MH) (x0 : Nat) : Option Int32 :=
  (hI h 4 x0 0).bind fun v1 =>
  some v1
def b_X4_within_15 (h : MH) (s0 : Int32) : Option Int32 :=
  some (s0 &&& 1)
def b_X4_within_14 (h : MH)  : Option Int32 :=
  b_X4_within_15 h (0 : Int32)
def f_X4_within (h : MH) (x0 : Int32) (x1 : Int32) (x2 : Int32) : Option Int32 :=
  if x0 < x1 then
    (b_X4_within_14 h )
  else
    (if x2 < x0 then
      (b_X4_within_14 h )
    else
      (b_X4_within_15 h (1 : Int32)))
def f_X4_of (h : MH) (x0 : Nat) (x1 : Int32) (x2 : Int32) : Option Int32 :=
  (hR h 4 x0 1).bind fun v1 =>
  (aI h v1 (((68 : Int32) + ((20 : Int32) * x1)) + x2)).bind fun v2 =>
  some v2
def f_X4_lay (h : MH) (x0 : Nat) (x1 : Int32) (x2 : Int32) (x3 : Int32) : Option MH :=
  (hR h 4 x0 1).bind fun v1 =>
  (sI h v1 (((68 : Int32) + ((20 : Int32) * x1)) + x2) x3).bind fun h2 =>
  some h2
def f_X4_add (h : MH) (x0 : Nat) (x1 : Int32) (x2 : Int32) : Option MH :=
  (hR h 4 x0 1).bind fun v1 =>
  (aI h v1 (((68 : Int32) + ((20 : Int32) * x1)) + x2)).bind fun v2 =>
  (sI h v1 (((68 : Int32) + ((20 : Int32) * x1)) + x2) (v2 + (1 : Int32))).bind fun h3 =>
  some h3
def f_X4_isRail (h : MH) (x0 : Nat) (x1 : Int32) : Option Int32 :=
  (hR h 4 x0 1).bind fun v1 =>
  (aI h v1 (0 : Int32)).bind fun v2 =>
  (f_X4_within h x1 (0 : Int32) (v2 - (1 : Int32))).bind fun v3 =>
  some (v3 &&& 1)
def b_X4_has_14 (h : MH) (s0 : Int32) : Option Int32 :=
  some (s0 &&& 1)
def f_X4_has (h : MH) (x0 : Int32) (x1 : Int32) : Option Int32 :=
  if ((x0 >>> (x1 &&& 31)) &&& (1 : Int32)) = (1 : Int32) then
    (b_X4_has_14 h (1 : Int32))
  else
    (b_X4_has_14 h (0 : Int32))
def f_X4_allRails (h : MH) (x0 : Nat) : Option Int32 :=
  (hR h 4 x0 1).bind fun v1 =>
  (aI h v1 (0 : Int32)).bind fun v2 =>
  some (((1 : Int32) <<< (v2 &&& 31)) - (1 : Int32))
def b_X4_isMask_16 (h : MH) (s0 : Int32) : Option Int32 :=
  some (s0 &&& 1)
def b_X4_isMask_15 (h : MH)  : Option Int32 :=
  b_X4_isMask_16 h (0 : Int32)
def f_X4_isMask (h : MH) (x0 : Nat) (x1 : Int32) (x2 : Int32) : Option Int32 :=
  if x1 < 0 then
    (b_X4_isMask_15 h )
  else
    (if ((1 : Int32) <<< (x2 &&& 31)) ≤ x1 then
      (b_X4_isMask_15 h )
    else
      (b_X4_isMask_16 h (1 : Int32)))
def b_X4_isDischarged_21 (h : MH) (s0 : Int32) : Option Int32 :=
  some (s0 &&& 1)
def f_X4_isDischarged (h : MH) (x0 : Nat) (x1 : Int32) : Option Int32 :=
  (vcall h 4 x0 (f_X4_of h x0 x1 (10 : Int32))).bind fun v1 =>
  (hR h 4 x0 1).bind fun v2 =>
  (aI h v2 (1 : Int32)).bind fun v3 =>
  if v3 < v1 then
    (b_X4_isDischarged_21 h (0 : Int32))
  else
    (b_X4_isDischarged_21 h (1 : Int32))
def b_X4_isFlag_62 (h : MH) (s0 : Int32) : Option Int32 :=
  some (s0 &&& 1)
def b_X4_isFlag_31 (h : MH) (x0 : Nat) (x1 : Int32) (s0 : Int32) : Option Int32 :=
  (vcall h 4 x0 (f_X4_of h x0 x1 (11 : Int32))).bind fun v1 =>
  if v1 = 0 then
    (b_X4_isFlag_62 h s0)
  else
    ((vcall h 4 x0 (f_X4_of h x0 x1 (11 : Int32))).bind fun v2 =>
    if v2 = (2 : Int32) then
      (b_X4_isFlag_62 h (1 : Int32))
    else
      (b_X4_isFlag_62 h (0 : Int32)))
def f_X4_isFlag (h : MH) (x0 : Nat) (x1 : Int32) : Option Int32 :=
  (vcall h 4 x0 (f_X4_of h x0 x1 (10 : Int32))).bind fun v3 =>
  (vcall h 4 x0 (f_X4_of h x0 x1 (0 : Int32))).bind fun v4 =>
  (vcall h 4 x0 (f_X4_of h x0 x1 (3 : Int32))).bind fun v5 =>
  if (v3 * (100 : Int32)) < (v4 * v5) then
    (b_X4_isFlag_31 h x0 x1 (0 : Int32))
  else
    (b_X4_isFlag_31 h x0 x1 (1 : Int32))
def b_X4_followers_38 (h : MH) (rec8 : Nat → Int32 → Int32 → Int32 → Option Int32) (x0 : Nat) (x1 : Int32) (x3 : Int32) (s0 : Int32) (s1 : Int32) : Option Int32 :=
  (some (s0 ||| s1)).bind fun v1 =>
  rec8 x0 x1 v1 (x3 + (1 : Int32))
def b_X4_followers_8 (h : MH) (rec8 : Nat → Int32 → Int32 → Int32 → Option Int32) (x0 : Nat) (x1 : Int32) (x2 : Int32) (x3 : Int32) : Option Int32 :=
  (hR h 4 x0 1).bind fun v2 =>
  (aI h v2 (0 : Int32)).bind fun v3 =>
  if v3 ≤ x3 then
    (some (x2 - ((1 : Int32) <<< (x1 &&& 31))))
  else
    ((vcall h 4 x0 (f_X4_of h x0 x3 (7 : Int32))).bind fun v4 =>
    if (v4 &&& x2) = 0 then
      (b_X4_followers_38 h rec8 x0 x1 x3 x2 (0 : Int32))
    else
      (b_X4_followers_38 h rec8 x0 x1 x3 x2 ((1 : Int32) <<< (x3 &&& 31))))
def f_X4_followers_8 (h : MH) : Nat → Nat → Int32 → Int32 → Int32 → Option Int32
  | 0 => fun _ _ _ _ => none
  | n + 1 => fun x0 x1 x2 x3 => b_X4_followers_8 h (f_X4_followers_8 h n) x0 x1 x2 x3
def f_X4_followers (h : MH) (x0 : Nat) (x1 : Int32) : Option Int32 :=
  (some ((1 : Int32) <<< (x1 &&& 31))).bind fun v5 =>
  (some (x1 + (1 : Int32))).bind fun v6 =>
  f_X4_followers_8 h FU x0 x1 v5 v6
def b_X4_become_120 (h : MH) (x0 : Nat) (x1 : Int32) (x2 : Int32) : Option MH :=
  (hR h 4 x0 1).bind fun v1 =>
  (aI h v1 (3 : Int32)).bind fun v2 =>
  (some ((4 : Int32) + ((4 : Int32) * v2))).bind fun v3 =>
  (hR h 4 x0 1).bind fun v4 =>
  (hR h 4 x0 1).bind fun v5 =>
  (aI h v5 (2 : Int32)).bind fun v6 =>
  (sI h v4 v3 v6).bind fun h7 =>
  (hR h7 4 x0 1).bind fun v8 =>
  (sI h7 v8 (v3 + (1 : Int32)) x1).bind fun h9 =>
  (hR h9 4 x0 1).bind fun v10 =>
  (sI h9 v10 (v3 + (2 : Int32)) x2).bind fun h11 =>
  (hR h11 4 x0 1).bind fun v12 =>
  (vcall h11 4 x0 (f_X4_of h11 x0 x1 (15 : Int32))).bind fun v13 =>
  (sI h11 v12 (v3 + (3 : Int32)) v13).bind fun h14 =>
  (hR h14 4 x0 1).bind fun v15 =>
  (aI h14 v15 (3 : Int32)).bind fun v16 =>
  (sI h14 v15 (3 : Int32) (v16 + (1 : Int32))).bind fun h17 =>
  some h17
def b_X4_become_80 (rec80 : MH → Nat → Int32 → Int32 → Int32 → Option MH) (h : MH) (x0 : Nat) (x1 : Int32) (x2 : Int32) (x3 : Int32) : Option MH :=
  if (64 : Int32) ≤ x3 then
    ((hR h 4 x0 1).bind fun v18 =>
    (aI h v18 (3 : Int32)).bind fun v19 =>
    (sI h v18 (3 : Int32) (v19 - (1 : Int32))).bind fun h20 =>
    b_X4_become_120 h20 x0 x1 x2)
  else
    ((hR h 4 x0 1).bind fun v21 =>
    (hR h 4 x0 1).bind fun v22 =>
    (aI h v22 ((4 : Int32) + x3)).bind fun v23 =>
    (sI h v21 (((4 : Int32) + x3) - (4 : Int32)) v23).bind fun h24 =>
    rec80 h24 x0 x1 x2 (x3 + (1 : Int32)))
def f_X4_become_80 : Nat → MH → Nat → Int32 → Int32 → Int32 → Option MH
  | 0 => fun _ _ _ _ _ => none
  | n + 1 => fun h x0 x1 x2 x3 => b_X4_become_80 (f_X4_become_80 n) h x0 x1 x2 x3
def b_X4_become_67 (h : MH) (x0 : Nat) (x1 : Int32) (x2 : Int32) : Option MH :=
  (hR h 4 x0 1).bind fun v25 =>
  (aI h v25 (3 : Int32)).bind fun v26 =>
  if v26 = (16 : Int32) then
    (f_X4_become_80 FU h x0 x1 x2 (4 : Int32))
  else
    (b_X4_become_120 h x0 x1 x2)
def b_X4_become_63 (h : MH) (x0 : Nat) (x1 : Int32) (x2 : Int32) (s0 : Nat) (s1 : Int32) (s2 : Int32) (s3 : Int32) : Option MH :=
  (vcall h 4 s0 (f_X4_add h s0 s1 (s2 + s3))).bind fun h27 =>
  b_X4_become_67 h27 x0 x1 x2
def b_X4_become_49 (h : MH) (x0 : Nat) (x1 : Int32) (x2 : Int32) : Option MH :=
  if x2 = (2 : Int32) then
    (b_X4_become_63 h x0 x1 x2 x0 x1 (16 : Int32) (0 : Int32))
  else
    (b_X4_become_63 h x0 x1 x2 x0 x1 (16 : Int32) (1 : Int32))
def b_X4_become_35 (h : MH) (x0 : Nat) (x1 : Int32) (x2 : Int32) (s0 : Nat) (s1 : Int32) (s2 : Int32) : Option MH :=
  (hP h 4 s0 7 (.int (s1 ||| s2))).bind fun h28 =>
  if x2 = (2 : Int32) then
    (b_X4_become_49 h28 x0 x1 x2)
  else
    (if x2 = (3 : Int32) then
      (b_X4_become_49 h28 x0 x1 x2)
    else
      (b_X4_become_67 h28 x0 x1 x2))
def f_X4_become (h : MH) (x0 : Nat) (x1 : Int32) (x2 : Int32) : Option MH :=
  (vcall h 4 x0 (f_X4_lay h x0 x1 (9 : Int32) x2)).bind fun h29 =>
  (hI h29 4 x0 6).bind fun v30 =>
  (hP h29 4 x0 6 (.int (v30 + (1 : Int32)))).bind fun h31 =>
  (hI h31 4 x0 7).bind fun v32 =>
  if x2 < (4 : Int32) then
    (b_X4_become_35 h31 x0 x1 x2 x0 v32 (0 : Int32))
  else
    (b_X4_become_35 h31 x0 x1 x2 x0 v32 ((1 : Int32) <<< (x1 &&& 31)))
def f_X4_becomeFor (h : MH) (x0 : Nat) (x1 : Int32) (x2 : Int32) (x3 : Int32) : Option MH :=
  (vcall h 4 x0 (f_X4_lay h x0 x1 (15 : Int32) x3)).bind fun h1 =>
  (vcall h1 4 x0 (f_X4_become h1 x0 x1 x2)).bind fun h2 =>
  some h2
def b_X4_towards_26 (h : MH) (s0 : Int32) (s1 : Int32) : Option Int32 :=
  some (s0 + s1)
def f_X4_towards (h : MH) (x0 : Int32) (x1 : Int32) (x2 : Int32) : Option Int32 :=
  (some (x1 - x0)).bind fun v1 =>
  if v1 ≤ x2 then
    (if (-x2) ≤ v1 then
      (b_X4_towards_26 h x0 v1)
    else
      (b_X4_towards_26 h x0 (-x2)))
  else
    (b_X4_towards_26 h x0 x2)
def b_X4_moveVoltage_84 (h : MH) (s0 : Nat) (s1 : Int32) (s2 : Int32) (s3 : Int32) : Option MH :=
  (vcall h 4 s0 (f_X4_lay h s0 s1 s2 s3)).bind fun h1 =>
  some h1
def b_X4_moveVoltage_37 (h : MH) (x0 : Nat) (x1 : Int32) (s0 : Int32) : Option MH :=
  (vcall h 4 x0 (f_X4_of h x0 x1 (10 : Int32))).bind fun v2 =>
  if s0 = 0 then
    ((vcall h 4 x0 (f_X4_of h x0 x1 (2 : Int32))).bind fun v3 =>
    (f_X4_towards h v2 (0 : Int32) v3).bind fun v4 =>
    b_X4_moveVoltage_84 h x0 x1 (10 : Int32) v4)
  else
    ((vcall h 4 x0 (f_X4_of h x0 x1 (0 : Int32))).bind fun v5 =>
    (vcall h 4 x0 (f_X4_of h x0 x1 (1 : Int32))).bind fun v6 =>
    (f_X4_towards h v2 v5 v6).bind fun v7 =>
    b_X4_moveVoltage_84 h x0 x1 (10 : Int32) v7)
def b_X4_moveVoltage_36 (h : MH) (x0 : Nat) (x1 : Int32) : Option MH :=
  b_X4_moveVoltage_37 h x0 x1 (0 : Int32)
def b_X4_moveVoltage_22 (h : MH) (x0 : Nat) (x1 : Int32) : Option MH :=
  (vcall h 4 x0 (f_X4_of h x0 x1 (12 : Int32))).bind fun v8 =>
  if v8 = 0 then
    (b_X4_moveVoltage_37 h x0 x1 (1 : Int32))
  else
    (b_X4_moveVoltage_36 h x0 x1)
def f_X4_moveVoltage (h : MH) (x0 : Nat) (x1 : Int32) : Option MH :=
  (vcall h 4 x0 (f_X4_of h x0 x1 (9 : Int32))).bind fun v9 =>
  if v9 = (2 : Int32) then
    (b_X4_moveVoltage_22 h x0 x1)
  else
    ((vcall h 4 x0 (f_X4_of h x0 x1 (9 : Int32))).bind fun v10 =>
    if v10 = (3 : Int32) then
      (b_X4_moveVoltage_22 h x0 x1)
    else
      (b_X4_moveVoltage_36 h x0 x1))
def b_X4_missing_47 (h : MH) (rec6 : Nat → Int32 → Int32 → Int32 → Option Int32) (x0 : Nat) (x1 : Int32) (x3 : Int32) (s0 : Int32) : Option Int32 :=
  rec6 x0 x1 s0 (x3 + (-1 : Int32))
def b_X4_missing_42 (h : MH) (rec6 : Nat → Int32 → Int32 → Int32 → Option Int32) (x0 : Nat) (x1 : Int32) (x3 : Int32) : Option Int32 :=
  b_X4_missing_47 h rec6 x0 x1 x3 x3
def b_X4_missing_46 (h : MH) (rec6 : Nat → Int32 → Int32 → Int32 → Option Int32) (x0 : Nat) (x1 : Int32) (x2 : Int32) (x3 : Int32) : Option Int32 :=
  b_X4_missing_47 h rec6 x0 x1 x3 x2
def b_X4_missing_6 (h : MH) (rec6 : Nat → Int32 → Int32 → Int32 → Option Int32) (x0 : Nat) (x1 : Int32) (x2 : Int32) (x3 : Int32) : Option Int32 :=
  if x3 < 0 then
    (some x2)
  else
    ((vcall h 4 x0 (f_X4_of h x0 x1 (7 : Int32))).bind fun v1 =>
    (f_X4_has h v1 x3).bind fun v2 =>
    if v2 = 0 then
      (b_X4_missing_46 h rec6 x0 x1 x2 x3)
    else
      ((hR h 4 x0 8).bind fun v3 =>
      (aI h v3 x3).bind fun v4 =>
      if v4 = (3 : Int32) then
        ((vcall h 4 x0 (f_X4_isFlag h x0 x3)).bind fun v5 =>
        if v5 = 0 then
          (b_X4_missing_42 h rec6 x0 x1 x3)
        else
          (b_X4_missing_46 h rec6 x0 x1 x2 x3))
      else
        (b_X4_missing_42 h rec6 x0 x1 x3)))
def f_X4_missing_6 (h : MH) : Nat → Nat → Int32 → Int32 → Int32 → Option Int32
  | 0 => fun _ _ _ _ => none
  | n + 1 => fun x0 x1 x2 x3 => b_X4_missing_6 h (f_X4_missing_6 h n) x0 x1 x2 x3
def f_X4_missing (h : MH) (x0 : Nat) (x1 : Int32) : Option Int32 :=
  (some (x1 - (1 : Int32))).bind fun v6 =>
  f_X4_missing_6 h FU x0 x1 (-1 : Int32) v6
def b_X4_isUsed_78 (h : MH) (rec6 : Nat → Int32 → Int32 → Int32 → Option Int32) (x0 : Nat) (x1 : Int32) (x3 : Int32) (s0 : Int32) : Option Int32 :=
  rec6 x0 x1 s0 (x3 + (1 : Int32))
def b_X4_isUsed_73 (h : MH) (rec6 : Nat → Int32 → Int32 → Int32 → Option Int32) (x0 : Nat) (x1 : Int32) (x3 : Int32) : Option Int32 :=
  b_X4_isUsed_78 h rec6 x0 x1 x3 (1 : Int32)
def b_X4_isUsed_77 (h : MH) (rec6 : Nat → Int32 → Int32 → Int32 → Option Int32) (x0 : Nat) (x1 : Int32) (x3 : Int32) : Option Int32 :=
  b_X4_isUsed_78 h rec6 x0 x1 x3 (0 : Int32)
def b_X4_isUsed_48 (h : MH) (rec6 : Nat → Int32 → Int32 → Int32 → Option Int32) (x0 : Nat) (x1 : Int32) (x2 : Int32) (x3 : Int32) (s0 : Int32) : Option Int32 :=
  if x2 = 0 then
    ((vcall h 4 x0 (f_X4_of h x0 x3 (7 : Int32))).bind fun v1 =>
    (f_X4_has h v1 x1).bind fun v2 =>
    if v2 = 0 then
      (b_X4_isUsed_77 h rec6 x0 x1 x3)
    else
      (if s0 = 0 then
        (b_X4_isUsed_73 h rec6 x0 x1 x3)
      else
        (b_X4_isUsed_77 h rec6 x0 x1 x3)))
  else
    (b_X4_isUsed_73 h rec6 x0 x1 x3)
def b_X4_isUsed_43 (h : MH) (rec6 : Nat → Int32 → Int32 → Int32 → Option Int32) (x0 : Nat) (x1 : Int32) (x2 : Int32) (x3 : Int32) : Option Int32 :=
  b_X4_isUsed_48 h rec6 x0 x1 x2 x3 (1 : Int32)
def b_X4_isUsed_47 (h : MH) (rec6 : Nat → Int32 → Int32 → Int32 → Option Int32) (x0 : Nat) (x1 : Int32) (x2 : Int32) (x3 : Int32) : Option Int32 :=
  b_X4_isUsed_48 h rec6 x0 x1 x2 x3 (0 : Int32)
def b_X4_isUsed_6 (h : MH) (rec6 : Nat → Int32 → Int32 → Int32 → Option Int32) (x0 : Nat) (x1 : Int32) (x2 : Int32) (x3 : Int32) : Option Int32 :=
  (hR h 4 x0 1).bind fun v3 =>
  (aI h v3 (0 : Int32)).bind fun v4 =>
  if v4 ≤ x3 then
    (some (x2 &&& 1))
  else
    ((vcall h 4 x0 (f_X4_isDischarged h x0 x3)).bind fun v5 =>
    if v5 = 0 then
      (b_X4_isUsed_47 h rec6 x0 x1 x2 x3)
    else
      ((hR h 4 x0 8).bind fun v6 =>
      (aI h v6 x3).bind fun v7 =>
      if v7 = 0 then
        (b_X4_isUsed_43 h rec6 x0 x1 x2 x3)
      else
        ((hR h 4 x0 8).bind fun v8 =>
        (aI h v8 x3).bind fun v9 =>
        if v9 = (5 : Int32) then
          (b_X4_isUsed_43 h rec6 x0 x1 x2 x3)
        else
          (b_X4_isUsed_47 h rec6 x0 x1 x2 x3))))
def f_X4_isUsed_6 (h : MH) : Nat → Nat → Int32 → Int32 → Int32 → Option Int32
  | 0 => fun _ _ _ _ => none
  | n + 1 => fun x0 x1 x2 x3 => b_X4_isUsed_6 h (f_X4_isUsed_6 h n) x0 x1 x2 x3
def f_X4_isUsed (h : MH) (x0 : Nat) (x1 : Int32) : Option Int32 :=
  (some (x1 + (1 : Int32))).bind fun v10 =>
  f_X4_isUsed_6 h FU x0 x1 (0 : Int32) v10
def b_X4_fail_38 (h : MH) (x1 : Int32) (s0 : Nat) (s1 : Int32) (s2 : Int32) : Option MH :=
  (vcall h 4 s0 (f_X4_becomeFor h s0 s1 s2 x1)).bind fun h1 =>
  some h1
def f_X4_fail (h : MH) (x0 : Nat) (x1 : Int32) : Option MH :=
  (vcall h 4 x0 (f_X4_add h x0 x1 (14 : Int32))).bind fun h2 =>
  (vcall h2 4 x0 (f_X4_add h2 x0 x1 (18 : Int32))).bind fun h3 =>
  (vcall h3 4 x0 (f_X4_of h3 x0 x1 (14 : Int32))).bind fun v4 =>
  (vcall h3 4 x0 (f_X4_of h3 x0 x1 (6 : Int32))).bind fun v5 =>
  if v4 < v5 then
    (b_X4_fail_38 h3 x1 x0 x1 (4 : Int32))
  else
    (b_X4_fail_38 h3 x1 x0 x1 (5 : Int32))
def b_X4_lookWaiting_84 (h : MH) : Option MH :=
  some h
def b_X4_lookWaiting_76 (h : MH) (x0 : Nat) (x1 : Int32) : Option MH :=
  (vcall h 4 x0 (f_X4_lay h x0 x1 (13 : Int32) (0 : Int32))).bind fun h1 =>
  b_X4_lookWaiting_84 h1
def f_X4_lookWaiting (h : MH) (x0 : Nat) (x1 : Int32) : Option MH :=
  (vcall h 4 x0 (f_X4_of h x0 x1 (8 : Int32))).bind fun v2 =>
  if v2 = 0 then
    ((vcall h 4 x0 (f_X4_become h x0 x1 (0 : Int32))).bind fun h10 =>
    b_X4_lookWaiting_84 h10)
  else
    ((vcall h 4 x0 (f_X4_isDischarged h x0 x1)).bind fun v3 =>
    if v3 = 0 then
      (b_X4_lookWaiting_76 h x0 x1)
    else
      ((vcall h 4 x0 (f_X4_missing h x0 x1)).bind fun v4 =>
      if v4 = (-1 : Int32) then
        ((vcall h 4 x0 (f_X4_add h x0 x1 (13 : Int32))).bind fun h5 =>
        (vcall h5 4 x0 (f_X4_of h5 x0 x1 (13 : Int32))).bind fun v6 =>
        (vcall h5 4 x0 (f_X4_of h5 x0 x1 (4 : Int32))).bind fun v7 =>
        if v6 ≤ v7 then
          (b_X4_lookWaiting_84 h5)
        else
          ((vcall h5 4 x0 (f_X4_lay h5 x0 x1 (13 : Int32) (0 : Int32))).bind fun h8 =>
          (vcall h8 4 x0 (f_X4_become h8 x0 x1 (2 : Int32))).bind fun h9 =>
          b_X4_lookWaiting_84 h9))
      else
        (b_X4_lookWaiting_76 h x0 x1)))
def b_X4_lookRising_87 (h : MH) : Option MH :=
  some h
def f_X4_lookRising (h : MH) (x0 : Nat) (x1 : Int32) : Option MH :=
  (vcall h 4 x0 (f_X4_missing h x0 x1)).bind fun v1 =>
  (vcall h 4 x0 (f_X4_of h x0 x1 (8 : Int32))).bind fun v2 =>
  if v2 = 0 then
    ((vcall h 4 x0 (f_X4_becomeFor h x0 x1 (4 : Int32) (-1 : Int32))).bind fun h10 =>
    b_X4_lookRising_87 h10)
  else
    (if v1 = (-1 : Int32) then
      ((vcall h 4 x0 (f_X4_isFlag h x0 x1)).bind fun v3 =>
      if v3 = 0 then
        ((vcall h 4 x0 (f_X4_add h x0 x1 (13 : Int32))).bind fun h4 =>
        (vcall h4 4 x0 (f_X4_of h4 x0 x1 (13 : Int32))).bind fun v5 =>
        (vcall h4 4 x0 (f_X4_of h4 x0 x1 (5 : Int32))).bind fun v6 =>
        if v5 < v6 then
          (b_X4_lookRising_87 h4)
        else
          ((vcall h4 4 x0 (f_X4_fail h4 x0 x1)).bind fun h7 =>
          b_X4_lookRising_87 h7))
      else
        ((vcall h 4 x0 (f_X4_becomeFor h x0 x1 (3 : Int32) (-1 : Int32))).bind fun h8 =>
        b_X4_lookRising_87 h8))
    else
      ((vcall h 4 x0 (f_X4_becomeFor h x0 x1 (4 : Int32) v1)).bind fun h9 =>
      b_X4_lookRising_87 h9))
def b_X4_lookGood_62 (h : MH) : Option MH :=
  some h
def f_X4_lookGood (h : MH) (x0 : Nat) (x1 : Int32) : Option MH :=
  (vcall h 4 x0 (f_X4_missing h x0 x1)).bind fun v1 =>
  if v1 = (-1 : Int32) then
    ((vcall h 4 x0 (f_X4_isFlag h x0 x1)).bind fun v2 =>
    if v2 = 0 then
      ((vcall h 4 x0 (f_X4_fail h x0 x1)).bind fun h6 =>
      b_X4_lookGood_62 h6)
    else
      ((vcall h 4 x0 (f_X4_of h x0 x1 (8 : Int32))).bind fun v3 =>
      if v3 = 0 then
        ((vcall h 4 x0 (f_X4_isUsed h x0 x1)).bind fun v4 =>
        if v4 = 0 then
          ((vcall h 4 x0 (f_X4_becomeFor h x0 x1 (4 : Int32) (-1 : Int32))).bind fun h5 =>
          b_X4_lookGood_62 h5)
        else
          (b_X4_lookGood_62 h))
      else
        (b_X4_lookGood_62 h)))
  else
    ((vcall h 4 x0 (f_X4_becomeFor h x0 x1 (4 : Int32) v1)).bind fun h7 =>
    b_X4_lookGood_62 h7)
def b_X4_look_174 (h : MH) : Option MH :=
  some h
def b_X4_look_150 (h : MH) (s0 : Nat) (s1 : Int32) (s2 : Int32) : Option MH :=
  (vcall h 4 s0 (f_X4_become h s0 s1 s2)).bind fun h1 =>
  b_X4_look_174 h1
def b_X4_look_136 (h : MH) (x0 : Nat) (x1 : Int32) (x2 : Int32) (s0 : Nat) (s1 : Int32) (s2 : Int32) (s3 : Int32) : Option MH :=
  (vcall h 4 s0 (f_X4_lay h s0 s1 s2 s3)).bind fun h2 =>
  if x2 = 0 then
    (b_X4_look_150 h2 x0 x1 (0 : Int32))
  else
    (b_X4_look_150 h2 x0 x1 (1 : Int32))
def b_X4_look_16 (h : MH) (x0 : Nat) (x1 : Int32) (s0 : Int32) : Option MH :=
  (hR h 4 x0 8).bind fun v3 =>
  (aI h v3 x1).bind fun v4 =>
  if v4 = 0 then
  (if s0 = 0 then
    (b_X4_look_174 h)
  else
    ((vcall h 4 x0 (f_X4_lay h x0 x1 (13 : Int32) (0 : Int32))).bind fun h5 =>
    (vcall h5 4 x0 (f_X4_lay h5 x0 x1 (14 : Int32) (0 : Int32))).bind fun h6 =>
    (vcall h6 4 x0 (f_X4_become h6 x0 x1 (1 : Int32))).bind fun h7 =>
    b_X4_look_174 h7))
 else
  if v4 = 1 then
  ((vcall h 4 x0 (f_X4_lookWaiting h x0 x1)).bind fun h8 =>
  b_X4_look_174 h8)
 else
  if v4 = 2 then
  ((vcall h 4 x0 (f_X4_lookRising h x0 x1)).bind fun h9 =>
  b_X4_look_174 h9)
 else
  if v4 = 3 then
  ((vcall h 4 x0 (f_X4_lookGood h x0 x1)).bind fun h10 =>
  b_X4_look_174 h10)
 else
  if v4 = 4 then
  ((vcall h 4 x0 (f_X4_isDischarged h x0 x1)).bind fun v11 =>
  if v11 = 0 then
    (b_X4_look_174 h)
  else
    (if s0 = 0 then
      ((vcall h 4 x0 (f_X4_of h x0 x1 (13 : Int32))).bind fun v12 =>
      b_X4_look_136 h x0 x1 s0 x0 x1 (13 : Int32) v12)
    else
      (b_X4_look_136 h x0 x1 s0 x0 x1 (13 : Int32) (0 : Int32))))
 else
  (if s0 = 0 then
    ((vcall h 4 x0 (f_X4_isDischarged h x0 x1)).bind fun v13 =>
    if v13 = 0 then
      (b_X4_look_174 h)
    else
      ((vcall h 4 x0 (f_X4_become h x0 x1 (0 : Int32))).bind fun h14 =>
      b_X4_look_174 h14))
  else
    (b_X4_look_174 h))
def f_X4_look (h : MH) (x0 : Nat) (x1 : Int32) : Option MH :=
  (vcall h 4 x0 (f_X4_of h x0 x1 (8 : Int32))).bind fun v15 =>
  if v15 = (1 : Int32) then
    (b_X4_look_16 h x0 x1 (1 : Int32))
  else
    (b_X4_look_16 h x0 x1 (0 : Int32))
def b_X4_pass_119 (rec61 : MH → Nat → Int32 → Option MH) (h : MH) (x0 : Nat) (x1 : Int32) : Option MH :=
  rec61 h x0 (x1 + (1 : Int32))
def b_X4_pass_98 (rec61 : MH → Nat → Int32 → Option MH) (h : MH) (x0 : Nat) (x1 : Int32) (s0 : Nat) (s1 : Int32) (s2 : Int32) (s3 : Int32) : Option MH :=
  (vcall h 4 s0 (f_X4_lay h s0 s1 s2 s3)).bind fun h1 =>
  (vcall h1 4 x0 (f_X4_of h1 x0 x1 (9 : Int32))).bind fun v2 =>
  if v2 = (3 : Int32) then
    ((vcall h1 4 x0 (f_X4_add h1 x0 x1 (19 : Int32))).bind fun h3 =>
    b_X4_pass_119 rec61 h3 x0 x1)
  else
    (b_X4_pass_119 rec61 h1 x0 x1)
def b_X4_pass_61 (rec61 : MH → Nat → Int32 → Option MH) (h : MH) (x0 : Nat) (x1 : Int32) : Option MH :=
  (hR h 4 x0 1).bind fun v4 =>
  (aI h v4 (0 : Int32)).bind fun v5 =>
  if v5 ≤ x1 then
    ((hR h 4 x0 1).bind fun v6 =>
    (aI h v6 (2 : Int32)).bind fun v7 =>
    (sI h v6 (2 : Int32) (v7 + (1 : Int32))).bind fun h8 =>
    some h8)
  else
    ((vcall h 4 x0 (f_X4_of h x0 x1 (12 : Int32))).bind fun v9 =>
    if v9 ≤ 0 then
      (b_X4_pass_98 rec61 h x0 x1 x0 x1 (12 : Int32) (0 : Int32))
    else
      ((vcall h 4 x0 (f_X4_of h x0 x1 (12 : Int32))).bind fun v10 =>
      b_X4_pass_98 rec61 h x0 x1 x0 x1 (12 : Int32) (v10 - (1 : Int32))))
def f_X4_pass_61 : Nat → MH → Nat → Int32 → Option MH
  | 0 => fun _ _ _ => none
  | n + 1 => fun h x0 x1 => b_X4_pass_61 (f_X4_pass_61 n) h x0 x1
def b_X4_pass_38 (rec38 : MH → Nat → Int32 → Option MH) (h : MH) (x0 : Nat) (x1 : Int32) : Option MH :=
  (hR h 4 x0 1).bind fun v11 =>
  (aI h v11 (0 : Int32)).bind fun v12 =>
  if v12 ≤ x1 then
    (f_X4_pass_61 FU h x0 (0 : Int32))
  else
    ((vcall h 4 x0 (f_X4_look h x0 x1)).bind fun h13 =>
    rec38 h13 x0 (x1 + (1 : Int32)))
def f_X4_pass_38 : Nat → MH → Nat → Int32 → Option MH
  | 0 => fun _ _ _ => none
  | n + 1 => fun h x0 x1 => b_X4_pass_38 (f_X4_pass_38 n) h x0 x1
def b_X4_pass_2 (rec2 : MH → Nat → Int32 → Option MH) (h : MH) (x0 : Nat) (x1 : Int32) : Option MH :=
  (hR h 4 x0 1).bind fun v14 =>
  (aI h v14 (0 : Int32)).bind fun v15 =>
  if v15 ≤ x1 then
    (f_X4_pass_38 FU h x0 (0 : Int32))
  else
    ((vcall h 4 x0 (f_X4_moveVoltage h x0 x1)).bind fun h16 =>
    (hR h16 4 x0 8).bind fun v17 =>
    (vcall h16 4 x0 (f_X4_of h16 x0 x1 (9 : Int32))).bind fun v18 =>
    (sI h16 v17 x1 v18).bind fun h19 =>
    rec2 h19 x0 (x1 + (1 : Int32)))
def f_X4_pass_2 : Nat → MH → Nat → Int32 → Option MH
  | 0 => fun _ _ _ => none
  | n + 1 => fun h x0 x1 => b_X4_pass_2 (f_X4_pass_2 n) h x0 x1
def f_X4_pass (h : MH) (x0 : Nat) : Option MH :=
  f_X4_pass_2 FU h x0 (0 : Int32)
def b_X4_save_54 (rec54 : MH → Nat → Int32 → Option MH) (h : MH) (x0 : Nat) (x1 : Int32) : Option MH :=
  if (228 : Int32) ≤ x1 then
    ((hI h 4 x0 2).bind fun v1 =>
    (hP h 4 x0 2 (.int (v1 + (1 : Int32)))).bind fun h2 =>
    some h2)
  else
    ((hR h 4 x0 3).bind fun v3 =>
    (hI h 4 x0 2).bind fun v4 =>
    (hR h 4 x0 1).bind fun v5 =>
    (aI h v5 x1).bind fun v6 =>
    (sI h v3 (((228 : Int32) * v4) + x1) v6).bind fun h7 =>
    rec54 h7 x0 (x1 + (1 : Int32)))
def f_X4_save_54 : Nat → MH → Nat → Int32 → Option MH
  | 0 => fun _ _ _ => none
  | n + 1 => fun h x0 x1 => b_X4_save_54 (f_X4_save_54 n) h x0 x1
def b_X4_save_52 (h : MH) (x0 : Nat) : Option MH :=
  f_X4_save_54 FU h x0 (0 : Int32)
def b_X4_save_13 (rec13 : MH → Nat → Int32 → Option MH) (h : MH) (x0 : Nat) (x1 : Int32) : Option MH :=
  if (1368 : Int32) ≤ x1 then
    ((hI h 4 x0 2).bind fun v8 =>
    (hP h 4 x0 2 (.int (v8 - (1 : Int32)))).bind fun h9 =>
    b_X4_save_52 h9 x0)
  else
    ((hR h 4 x0 3).bind fun v10 =>
    (hR h 4 x0 3).bind fun v11 =>
    (aI h v11 x1).bind fun v12 =>
    (sI h v10 (x1 - (228 : Int32)) v12).bind fun h13 =>
    rec13 h13 x0 (x1 + (1 : Int32)))
def f_X4_save_13 : Nat → MH → Nat → Int32 → Option MH
  | 0 => fun _ _ _ => none
  | n + 1 => fun h x0 x1 => b_X4_save_13 (f_X4_save_13 n) h x0 x1
def f_X4_save (h : MH) (x0 : Nat) : Option MH :=
  (hI h 4 x0 2).bind fun v14 =>
  if v14 = (6 : Int32) then
    (f_X4_save_13 FU h x0 (228 : Int32))
  else
    (b_X4_save_52 h x0)
def b_X4_undo_37 (rec37 : MH → Nat → Int32 → Option (Int32 × MH)) (h : MH) (x0 : Nat) (x1 : Int32) : Option (Int32 × MH) :=
  if (228 : Int32) ≤ x1 then
    ((hI h 4 x0 2).bind fun v1 =>
    some (v1, h))
  else
    ((hR h 4 x0 1).bind fun v2 =>
    (hR h 4 x0 3).bind fun v3 =>
    (hI h 4 x0 2).bind fun v4 =>
    (aI h v3 (((228 : Int32) * v4) + x1)).bind fun v5 =>
    (sI h v2 x1 v5).bind fun h6 =>
    rec37 h6 x0 (x1 + (1 : Int32)))
def f_X4_undo_37 : Nat → MH → Nat → Int32 → Option (Int32 × MH)
  | 0 => fun _ _ _ => none
  | n + 1 => fun h x0 x1 => b_X4_undo_37 (f_X4_undo_37 n) h x0 x1
def b_X4_undo_13 (h : MH) (x0 : Nat) (s0 : Nat) (s1 : Int32) : Option (Int32 × MH) :=
  (hP h 4 s0 0 (.int s1)).bind fun h7 =>
  (hI h7 4 x0 0).bind fun v8 =>
  if v8 ≤ 0 then
    ((hI h7 4 x0 2).bind fun v9 =>
    (hP h7 4 x0 2 (.int (v9 - (1 : Int32)))).bind fun h10 =>
    f_X4_undo_37 FU h10 x0 (0 : Int32))
  else
    (some ((0 : Int32), h7))
def f_X4_undo (h : MH) (x0 : Nat) : Option (Int32 × MH) :=
  (hI h 4 x0 2).bind fun v11 =>
  if v11 ≤ 0 then
    (b_X4_undo_13 h x0 x0 (1 : Int32))
  else
    (b_X4_undo_13 h x0 x0 (0 : Int32))
def b_X4_keepAside_2 (rec2 : MH → Nat → Int32 → Option MH) (h : MH) (x0 : Nat) (x1 : Int32) : Option MH :=
  if (228 : Int32) ≤ x1 then
    (some h)
  else
    ((hR h 4 x0 9).bind fun v1 =>
    (hR h 4 x0 1).bind fun v2 =>
    (aI h v2 x1).bind fun v3 =>
    (sI h v1 x1 v3).bind fun h4 =>
    rec2 h4 x0 (x1 + (1 : Int32)))
def f_X4_keepAside_2 : Nat → MH → Nat → Int32 → Option MH
  | 0 => fun _ _ _ => none
  | n + 1 => fun h x0 x1 => b_X4_keepAside_2 (f_X4_keepAside_2 n) h x0 x1
def f_X4_keepAside (h : MH) (x0 : Nat) : Option MH :=
  f_X4_keepAside_2 FU h x0 (0 : Int32)
def b_X4_takeBack_2 (rec2 : MH → Nat → Int32 → Option MH) (h : MH) (x0 : Nat) (x1 : Int32) : Option MH :=
  if (228 : Int32) ≤ x1 then
    (some h)
  else
    ((hR h 4 x0 1).bind fun v1 =>
    (hR h 4 x0 9).bind fun v2 =>
    (aI h v2 x1).bind fun v3 =>
    (sI h v1 x1 v3).bind fun h4 =>
    rec2 h4 x0 (x1 + (1 : Int32)))
def f_X4_takeBack_2 : Nat → MH → Nat → Int32 → Option MH
  | 0 => fun _ _ _ => none
  | n + 1 => fun h x0 x1 => b_X4_takeBack_2 (f_X4_takeBack_2 n) h x0 x1
def f_X4_takeBack (h : MH) (x0 : Nat) : Option MH :=
  f_X4_takeBack_2 FU h x0 (0 : Int32)
def f_X4_isValue (h : MH) (x0 : Int32) (x1 : Int32) : Option Int32 :=
  if x0 = 0 then
  ((f_X4_within h x1 (100 : Int32) (5000 : Int32)).bind fun v1 =>
  some (v1 &&& 1))
 else
  if x0 = 1 then
  ((f_X4_within h x1 (1 : Int32) (1000 : Int32)).bind fun v2 =>
  some (v2 &&& 1))
 else
  if x0 = 2 then
  ((f_X4_within h x1 (1 : Int32) (1000 : Int32)).bind fun v3 =>
  some (v3 &&& 1))
 else
  if x0 = 3 then
  ((f_X4_within h x1 (50 : Int32) (100 : Int32)).bind fun v4 =>
  some (v4 &&& 1))
 else
  if x0 = 4 then
  ((f_X4_within h x1 (0 : Int32) (50 : Int32)).bind fun v5 =>
  some (v5 &&& 1))
 else
  if x0 = 5 then
  ((f_X4_within h x1 (1 : Int32) (200 : Int32)).bind fun v6 =>
  some (v6 &&& 1))
 else
  ((f_X4_within h x1 (1 : Int32) (4 : Int32)).bind fun v7 =>
  some (v7 &&& 1))
def b_X4_bring_11 (rec11 : MH → Nat → Int32 → Int32 → Int32 → Int32 → Int32 → Int32 → Option MH) (h : MH) (x0 : Nat) (x1 : Int32) (x2 : Int32) (x3 : Int32) (x4 : Int32) (x5 : Int32) (x6 : Int32) : Option MH :=
  if (20 : Int32) ≤ x6 then
    ((vcall h 4 x0 (f_X4_lay h x0 x5 (0 : Int32) x1)).bind fun h1 =>
    (vcall h1 4 x0 (f_X4_lay h1 x0 x5 (1 : Int32) x2)).bind fun h2 =>
    (vcall h2 4 x0 (f_X4_lay h2 x0 x5 (2 : Int32) x3)).bind fun h3 =>
    (vcall h3 4 x0 (f_X4_lay h3 x0 x5 (3 : Int32) (90 : Int32))).bind fun h4 =>
    (vcall h4 4 x0 (f_X4_lay h4 x0 x5 (4 : Int32) (2 : Int32))).bind fun h5 =>
    (vcall h5 4 x0 (f_X4_lay h5 x0 x5 (5 : Int32) (40 : Int32))).bind fun h6 =>
    (vcall h6 4 x0 (f_X4_lay h6 x0 x5 (6 : Int32) (2 : Int32))).bind fun h7 =>
    (vcall h7 4 x0 (f_X4_lay h7 x0 x5 (7 : Int32) x4)).bind fun h8 =>
    (vcall h8 4 x0 (f_X4_lay h8 x0 x5 (15 : Int32) (-1 : Int32))).bind fun h9 =>
    (hR h9 4 x0 1).bind fun v10 =>
    (aI h9 v10 (0 : Int32)).bind fun v11 =>
    (sI h9 v10 (0 : Int32) (v11 + (1 : Int32))).bind fun h12 =>
    some h12)
  else
    ((vcall h 4 x0 (f_X4_lay h x0 x5 x6 (0 : Int32))).bind fun h13 =>
    rec11 h13 x0 x1 x2 x3 x4 x5 (x6 + (1 : Int32)))
def f_X4_bring_11 : Nat → MH → Nat → Int32 → Int32 → Int32 → Int32 → Int32 → Int32 → Option MH
  | 0 => fun _ _ _ _ _ _ _ _ => none
  | n + 1 => fun h x0 x1 x2 x3 x4 x5 x6 => b_X4_bring_11 (f_X4_bring_11 n) h x0 x1 x2 x3 x4 x5 x6
def f_X4_bring (h : MH) (x0 : Nat) (x1 : Int32) (x2 : Int32) (x3 : Int32) (x4 : Int32) : Option MH :=
  (hR h 4 x0 1).bind fun v14 =>
  (aI h v14 (0 : Int32)).bind fun v15 =>
  f_X4_bring_11 FU h x0 x1 x2 x3 x4 v15 (0 : Int32)
def b_X4_addRail_72 (h : MH) (x0 : Nat) (x1 : Int32) (x2 : Int32) (x3 : Int32) (x4 : Int32) (s0 : Nat) (s1 : Int32) : Option (Int32 × MH) :=
  (hP h 4 s0 0 (.int s1)).bind fun h1 =>
  (hI h1 4 x0 0).bind fun v2 =>
  if v2 ≤ 0 then
    ((vcall h1 4 x0 (f_X4_save h1 x0)).bind fun h3 =>
    (vcall h3 4 x0 (f_X4_bring h3 x0 x1 x2 x3 x4)).bind fun h4 =>
    (hR h4 4 x0 1).bind fun v5 =>
    (aI h4 v5 (0 : Int32)).bind fun v6 =>
    some ((v6 - (1 : Int32)), h4))
  else
    (some ((0 : Int32), h1))
def b_X4_addRail_44 (h : MH) (x0 : Nat) (x1 : Int32) (x2 : Int32) (x3 : Int32) (x4 : Int32) (s0 : Int32) : Option (Int32 × MH) :=
  if s0 = 0 then
    (b_X4_addRail_72 h x0 x1 x2 x3 x4 x0 (1 : Int32))
  else
    ((hR h 4 x0 1).bind fun v7 =>
    (aI h v7 (0 : Int32)).bind fun v8 =>
    if v8 = (8 : Int32) then
      (b_X4_addRail_72 h x0 x1 x2 x3 x4 x0 (2 : Int32))
    else
      (b_X4_addRail_72 h x0 x1 x2 x3 x4 x0 (0 : Int32)))
def b_X4_addRail_43 (h : MH) (x0 : Nat) (x1 : Int32) (x2 : Int32) (x3 : Int32) (x4 : Int32) : Option (Int32 × MH) :=
  b_X4_addRail_44 h x0 x1 x2 x3 x4 (0 : Int32)
def f_X4_addRail (h : MH) (x0 : Nat) (x1 : Int32) (x2 : Int32) (x3 : Int32) (x4 : Int32) : Option (Int32 × MH) :=
  (f_X4_isValue h (0 : Int32) x1).bind fun v9 =>
  if v9 = 0 then
    (b_X4_addRail_43 h x0 x1 x2 x3 x4)
  else
    ((f_X4_isValue h (1 : Int32) x2).bind fun v10 =>
    if v10 = 0 then
      (b_X4_addRail_43 h x0 x1 x2 x3 x4)
    else
      ((f_X4_isValue h (2 : Int32) x3).bind fun v11 =>
      if v11 = 0 then
        (b_X4_addRail_43 h x0 x1 x2 x3 x4)
      else
        ((hR h 4 x0 1).bind fun v12 =>
        (aI h v12 (0 : Int32)).bind fun v13 =>
        (vcall h 4 x0 (f_X4_isMask h x0 x4 v13)).bind fun v14 =>
        if v14 = 0 then
          (b_X4_addRail_43 h x0 x1 x2 x3 x4)
        else
          (b_X4_addRail_44 h x0 x1 x2 x3 x4 (1 : Int32)))))
def f_X4_replaced (h : MH) (x0 : Nat) (x1 : Int32) (x2 : Int32) (x3 : Int32) : Option (Int32 × MH) :=
  (vcall h 4 x0 (f_X4_save h x0)).bind fun h1 =>
  (vcall h1 4 x0 (f_X4_of h1 x0 x1 x2)).bind fun v2 =>
  (vcall h1 4 x0 (f_X4_lay h1 x0 x1 x2 x3)).bind fun h3 =>
  some (v2, h3)
def b_X4_set_69 (h : MH) (s0 : Int32) : Option (Int32 × MH) :=
  some (s0, h)
def b_X4_set_48 (h : MH) (x0 : Nat) (x1 : Int32) (x2 : Int32) (x3 : Int32) (s0 : Nat) (s1 : Int32) : Option (Int32 × MH) :=
  (hP h 4 s0 0 (.int s1)).bind fun h1 =>
  (hI h1 4 x0 0).bind fun v2 =>
  if v2 ≤ 0 then
    ((vcall h1 4 x0 (f_X4_replaced h1 x0 x1 x2 x3)).bind fun p3 =>
    b_X4_set_69 p3.2 p3.1)
  else
    (b_X4_set_69 h1 (0 : Int32))
def b_X4_set_23 (h : MH) (x0 : Nat) (x1 : Int32) (x2 : Int32) (x3 : Int32) (s0 : Int32) : Option (Int32 × MH) :=
  if s0 = 0 then
    (b_X4_set_48 h x0 x1 x2 x3 x0 (1 : Int32))
  else
    ((f_X4_isValue h x2 x3).bind fun v4 =>
    if v4 = 0 then
      (b_X4_set_48 h x0 x1 x2 x3 x0 (2 : Int32))
    else
      (b_X4_set_48 h x0 x1 x2 x3 x0 (0 : Int32)))
def b_X4_set_22 (h : MH) (x0 : Nat) (x1 : Int32) (x2 : Int32) (x3 : Int32) : Option (Int32 × MH) :=
  b_X4_set_23 h x0 x1 x2 x3 (0 : Int32)
def f_X4_set (h : MH) (x0 : Nat) (x1 : Int32) (x2 : Int32) (x3 : Int32) : Option (Int32 × MH) :=
  (vcall h 4 x0 (f_X4_isRail h x0 x1)).bind fun v5 =>
  if v5 = 0 then
    (b_X4_set_22 h x0 x1 x2 x3)
  else
    ((f_X4_within h x2 (0 : Int32) (6 : Int32)).bind fun v6 =>
    if v6 = 0 then
      (b_X4_set_22 h x0 x1 x2 x3)
    else
      (b_X4_set_23 h x0 x1 x2 x3 (1 : Int32)))
def b_X4_setNeeds_87 (h : MH) (s0 : Int32) : Option (Int32 × MH) :=
  some (s0, h)
def b_X4_setNeeds_65 (h : MH) (x0 : Nat) (x1 : Int32) (x2 : Int32) (s0 : Nat) (s1 : Int32) : Option (Int32 × MH) :=
  (hP h 4 s0 0 (.int s1)).bind fun h1 =>
  (hI h1 4 x0 0).bind fun v2 =>
  if v2 ≤ 0 then
    ((vcall h1 4 x0 (f_X4_replaced h1 x0 x1 (7 : Int32) x2)).bind fun p3 =>
    b_X4_setNeeds_87 p3.2 p3.1)
  else
    (b_X4_setNeeds_87 h1 (0 : Int32))
def b_X4_setNeeds_41 (h : MH) (x0 : Nat) (x1 : Int32) (x2 : Int32) (s0 : Int32) : Option (Int32 × MH) :=
  (vcall h 4 x0 (f_X4_isMask h x0 x2 x1)).bind fun v4 =>
  if v4 = 0 then
    (b_X4_setNeeds_65 h x0 x1 x2 x0 (2 : Int32))
  else
    (if s0 = 0 then
      (b_X4_setNeeds_65 h x0 x1 x2 x0 (3 : Int32))
    else
      (b_X4_setNeeds_65 h x0 x1 x2 x0 (0 : Int32)))
def b_X4_setNeeds_36 (h : MH) (x0 : Nat) (x1 : Int32) (x2 : Int32) : Option (Int32 × MH) :=
  b_X4_setNeeds_41 h x0 x1 x2 (1 : Int32)
def f_X4_setNeeds (h : MH) (x0 : Nat) (x1 : Int32) (x2 : Int32) : Option (Int32 × MH) :=
  (vcall h 4 x0 (f_X4_isRail h x0 x1)).bind fun v5 =>
  if v5 = 0 then
    ((hP h 4 x0 0 (.int (1 : Int32))).bind fun h8 =>
    some ((0 : Int32), h8))
  else
    ((vcall h 4 x0 (f_X4_of h x0 x1 (9 : Int32))).bind fun v6 =>
    if v6 = 0 then
      (b_X4_setNeeds_36 h x0 x1 x2)
    else
      ((vcall h 4 x0 (f_X4_of h x0 x1 (9 : Int32))).bind fun v7 =>
      if v7 = (5 : Int32) then
        (b_X4_setNeeds_36 h x0 x1 x2)
      else
        (b_X4_setNeeds_41 h x0 x1 x2 (0 : Int32))))
def b_X4_setResidue_17 (h : MH) (x0 : Nat) (x1 : Int32) (s0 : Nat) (s1 : Int32) : Option (Int32 × MH) :=
  (hP h 4 s0 0 (.int s1)).bind fun h1 =>
  (hI h1 4 x0 0).bind fun v2 =>
  if v2 ≤ 0 then
    ((vcall h1 4 x0 (f_X4_save h1 x0)).bind fun h3 =>
    (hR h3 4 x0 1).bind fun v4 =>
    (aI h3 v4 (1 : Int32)).bind fun v5 =>
    (hR h3 4 x0 1).bind fun v6 =>
    (sI h3 v6 (1 : Int32) x1).bind fun h7 =>
    some (v5, h7))
  else
    (some ((0 : Int32), h1))
def f_X4_setResidue (h : MH) (x0 : Nat) (x1 : Int32) : Option (Int32 × MH) :=
  (f_X4_within h x1 (0 : Int32) (500 : Int32)).bind fun v8 =>
  if v8 = 0 then
    (b_X4_setResidue_17 h x0 x1 x0 (1 : Int32))
  else
    (b_X4_setResidue_17 h x0 x1 x0 (0 : Int32))
def b_X4_maskOf_36 (h : MH) (rec5 : Nat → Int32 → Int32 → Int32 → Int32 → Option Int32) (x0 : Nat) (x1 : Int32) (x2 : Int32) (x4 : Int32) (s0 : Int32) (s1 : Int32) : Option Int32 :=
  (some (s0 ||| s1)).bind fun v1 =>
  rec5 x0 x1 x2 v1 (x4 + (1 : Int32))
def b_X4_maskOf_5 (h : MH) (rec5 : Nat → Int32 → Int32 → Int32 → Int32 → Option Int32) (x0 : Nat) (x1 : Int32) (x2 : Int32) (x3 : Int32) (x4 : Int32) : Option Int32 :=
  (hR h 4 x0 1).bind fun v2 =>
  (aI h v2 (0 : Int32)).bind fun v3 =>
  if v3 ≤ x4 then
    (some x3)
  else
    ((vcall h 4 x0 (f_X4_of h x0 x4 x1)).bind fun v4 =>
    if v4 = x2 then
      (b_X4_maskOf_36 h rec5 x0 x1 x2 x4 x3 ((1 : Int32) <<< (x4 &&& 31)))
    else
      (b_X4_maskOf_36 h rec5 x0 x1 x2 x4 x3 (0 : Int32)))
def f_X4_maskOf_5 (h : MH) : Nat → Nat → Int32 → Int32 → Int32 → Int32 → Option Int32
  | 0 => fun _ _ _ _ _ => none
  | n + 1 => fun x0 x1 x2 x3 x4 => b_X4_maskOf_5 h (f_X4_maskOf_5 h n) x0 x1 x2 x3 x4
def f_X4_maskOf (h : MH) (x0 : Nat) (x1 : Int32) (x2 : Int32) : Option Int32 :=
  f_X4_maskOf_5 h FU x0 x1 x2 (0 : Int32) (0 : Int32)
def b_X4_on_96 (rec47 : MH → Nat → Int32 → Int32 → Option (Int32 × MH)) (h : MH) (x0 : Nat) (x2 : Int32) (x3 : Int32) (s0 : Nat) (s1 : Int32) (s2 : Int32) (s3 : Int32) : Option (Int32 × MH) :=
  (vcall h 4 s0 (f_X4_lay h s0 s1 s2 s3)).bind fun h1 =>
  rec47 h1 x0 x2 (x3 + (-1 : Int32))
def b_X4_on_71 (rec47 : MH → Nat → Int32 → Int32 → Option (Int32 × MH)) (h : MH) (x0 : Nat) (x3 : Int32) (s0 : Int32) (s1 : Int32) : Option (Int32 × MH) :=
  (some (s0 ||| s1)).bind fun v2 =>
  (f_X4_has h v2 x3).bind fun v3 =>
  if v3 = 0 then
    ((vcall h 4 x0 (f_X4_of h x0 x3 (8 : Int32))).bind fun v4 =>
    b_X4_on_96 rec47 h x0 v2 x3 x0 x3 (8 : Int32) v4)
  else
    (b_X4_on_96 rec47 h x0 v2 x3 x0 x3 (8 : Int32) (1 : Int32))
def b_X4_on_47 (rec47 : MH → Nat → Int32 → Int32 → Option (Int32 × MH)) (h : MH) (x0 : Nat) (x2 : Int32) (x3 : Int32) : Option (Int32 × MH) :=
  if x3 < 0 then
    ((vcall h 4 x0 (f_X4_maskOf h x0 (8 : Int32) (1 : Int32))).bind fun v5 =>
    some (v5, h))
  else
    ((f_X4_has h x2 x3).bind fun v6 =>
    if v6 = 0 then
      (b_X4_on_71 rec47 h x0 x3 x2 (0 : Int32))
    else
      ((vcall h 4 x0 (f_X4_of h x0 x3 (7 : Int32))).bind fun v7 =>
      b_X4_on_71 rec47 h x0 x3 x2 v7))
def f_X4_on_47 : Nat → MH → Nat → Int32 → Int32 → Option (Int32 × MH)
  | 0 => fun _ _ _ _ => none
  | n + 1 => fun h x0 x2 x3 => b_X4_on_47 (f_X4_on_47 n) h x0 x2 x3
def b_X4_on_20 (h : MH) (x0 : Nat) (x1 : Int32) (s0 : Nat) (s1 : Int32) : Option (Int32 × MH) :=
  (hP h 4 s0 0 (.int s1)).bind fun h8 =>
  (hI h8 4 x0 0).bind fun v9 =>
  if v9 ≤ 0 then
    ((vcall h8 4 x0 (f_X4_save h8 x0)).bind fun h10 =>
    (hR h10 4 x0 1).bind fun v11 =>
    (aI h10 v11 (0 : Int32)).bind fun v12 =>
    (some (v12 - (1 : Int32))).bind fun v13 =>
    f_X4_on_47 FU h10 x0 x1 v13)
  else
    (some ((0 : Int32), h8))
def f_X4_on (h : MH) (x0 : Nat) (x1 : Int32) : Option (Int32 × MH) :=
  (hR h 4 x0 1).bind fun v14 =>
  (aI h v14 (0 : Int32)).bind fun v15 =>
  (vcall h 4 x0 (f_X4_isMask h x0 x1 v15)).bind fun v16 =>
  if v16 = 0 then
    (b_X4_on_20 h x0 x1 x0 (1 : Int32))
  else
    (b_X4_on_20 h x0 x1 x0 (0 : Int32))
def b_X4_unwant_59 (rec4 : MH → Nat → Int32 → Int32 → Option MH) (h : MH) (x0 : Nat) (x2 : Int32) (x3 : Int32) (s0 : Nat) (s1 : Int32) (s2 : Int32) (s3 : Int32) : Option MH :=
  (vcall h 4 s0 (f_X4_lay h s0 s1 s2 s3)).bind fun h1 =>
  rec4 h1 x0 x2 (x3 + (1 : Int32))
def b_X4_unwant_34 (rec4 : MH → Nat → Int32 → Int32 → Option MH) (h : MH) (x0 : Nat) (x3 : Int32) (s0 : Int32) (s1 : Int32) : Option MH :=
  (some (s0 ||| s1)).bind fun v2 =>
  (f_X4_has h v2 x3).bind fun v3 =>
  if v3 = 0 then
    ((vcall h 4 x0 (f_X4_of h x0 x3 (8 : Int32))).bind fun v4 =>
    b_X4_unwant_59 rec4 h x0 v2 x3 x0 x3 (8 : Int32) v4)
  else
    (b_X4_unwant_59 rec4 h x0 v2 x3 x0 x3 (8 : Int32) (0 : Int32))
def b_X4_unwant_4 (rec4 : MH → Nat → Int32 → Int32 → Option MH) (h : MH) (x0 : Nat) (x2 : Int32) (x3 : Int32) : Option MH :=
  (hR h 4 x0 1).bind fun v5 =>
  (aI h v5 (0 : Int32)).bind fun v6 =>
  if v6 ≤ x3 then
    (some h)
  else
    ((vcall h 4 x0 (f_X4_of h x0 x3 (7 : Int32))).bind fun v7 =>
    if (v7 &&& x2) = 0 then
      (b_X4_unwant_34 rec4 h x0 x3 x2 (0 : Int32))
    else
      (b_X4_unwant_34 rec4 h x0 x3 x2 ((1 : Int32) <<< (x3 &&& 31))))
def f_X4_unwant_4 : Nat → MH → Nat → Int32 → Int32 → Option MH
  | 0 => fun _ _ _ _ => none
  | n + 1 => fun h x0 x2 x3 => b_X4_unwant_4 (f_X4_unwant_4 n) h x0 x2 x3
def f_X4_unwant (h : MH) (x0 : Nat) (x1 : Int32) : Option MH :=
  f_X4_unwant_4 FU h x0 x1 (0 : Int32)
def b_X4_off_20 (h : MH) (x0 : Nat) (x1 : Int32) (s0 : Nat) (s1 : Int32) : Option (Int32 × MH) :=
  (hP h 4 s0 0 (.int s1)).bind fun h1 =>
  (hI h1 4 x0 0).bind fun v2 =>
  if v2 ≤ 0 then
    ((vcall h1 4 x0 (f_X4_save h1 x0)).bind fun h3 =>
    (vcall h3 4 x0 (f_X4_unwant h3 x0 x1)).bind fun h4 =>
    (vcall h4 4 x0 (f_X4_maskOf h4 x0 (8 : Int32) (1 : Int32))).bind fun v5 =>
    some (v5, h4))
  else
    (some ((0 : Int32), h1))
def f_X4_off (h : MH) (x0 : Nat) (x1 : Int32) : Option (Int32 × MH) :=
  (hR h 4 x0 1).bind fun v6 =>
  (aI h v6 (0 : Int32)).bind fun v7 =>
  (vcall h 4 x0 (f_X4_isMask h x0 x1 v7)).bind fun v8 =>
  if v8 = 0 then
    (b_X4_off_20 h x0 x1 x0 (1 : Int32))
  else
    (b_X4_off_20 h x0 x1 x0 (0 : Int32))
def b_X4_restart_145 (rec62 : MH → Nat → Int32 → Int32 → Int32 → Option (Int32 × MH)) (h : MH) (x0 : Nat) (x1 : Int32) (x2 : Int32) (x3 : Int32) : Option (Int32 × MH) :=
  rec62 h x0 x1 x2 (x3 + (1 : Int32))
def b_X4_restart_115 (rec62 : MH → Nat → Int32 → Int32 → Int32 → Option (Int32 × MH)) (h : MH) (x0 : Nat) (x1 : Int32) (x2 : Int32) (x3 : Int32) (s0 : Int32) : Option (Int32 × MH) :=
  (f_X4_has h x2 x3).bind fun v1 =>
  if v1 = 0 then
    (b_X4_restart_145 rec62 h x0 x1 x2 x3)
  else
    (if s0 = 0 then
      (b_X4_restart_145 rec62 h x0 x1 x2 x3)
    else
      ((vcall h 4 x0 (f_X4_lay h x0 x3 (14 : Int32) (0 : Int32))).bind fun h2 =>
      (vcall h2 4 x0 (f_X4_becomeFor h2 x0 x3 (4 : Int32) x1)).bind fun h3 =>
      b_X4_restart_145 rec62 h3 x0 x1 x2 x3))
def b_X4_restart_114 (rec62 : MH → Nat → Int32 → Int32 → Int32 → Option (Int32 × MH)) (h : MH) (x0 : Nat) (x1 : Int32) (x2 : Int32) (x3 : Int32) : Option (Int32 × MH) :=
  b_X4_restart_115 rec62 h x0 x1 x2 x3 (0 : Int32)
def b_X4_restart_110 (rec62 : MH → Nat → Int32 → Int32 → Int32 → Option (Int32 × MH)) (h : MH) (x0 : Nat) (x1 : Int32) (x2 : Int32) (x3 : Int32) : Option (Int32 × MH) :=
  b_X4_restart_115 rec62 h x0 x1 x2 x3 (1 : Int32)
def b_X4_restart_62 (rec62 : MH → Nat → Int32 → Int32 → Int32 → Option (Int32 × MH)) (h : MH) (x0 : Nat) (x1 : Int32) (x2 : Int32) (x3 : Int32) : Option (Int32 × MH) :=
  (hR h 4 x0 1).bind fun v4 =>
  (aI h v4 (0 : Int32)).bind fun v5 =>
  if v5 ≤ x3 then
    ((hI h 4 x0 6).bind fun v6 =>
    some (v6, h))
  else
    ((vcall h 4 x0 (f_X4_of h x0 x3 (9 : Int32))).bind fun v7 =>
    if v7 = (2 : Int32) then
      (b_X4_restart_110 rec62 h x0 x1 x2 x3)
    else
      (if v7 = (3 : Int32) then
        (b_X4_restart_110 rec62 h x0 x1 x2 x3)
      else
        (if v7 = (5 : Int32) then
          ((vcall h 4 x0 (f_X4_of h x0 x3 (8 : Int32))).bind fun v8 =>
          if v8 = (1 : Int32) then
            (b_X4_restart_110 rec62 h x0 x1 x2 x3)
          else
            (b_X4_restart_114 rec62 h x0 x1 x2 x3))
        else
          (b_X4_restart_114 rec62 h x0 x1 x2 x3))))
def f_X4_restart_62 : Nat → MH → Nat → Int32 → Int32 → Int32 → Option (Int32 × MH)
  | 0 => fun _ _ _ _ _ => none
  | n + 1 => fun h x0 x1 x2 x3 => b_X4_restart_62 (f_X4_restart_62 n) h x0 x1 x2 x3
def b_X4_restart_29 (h : MH) (x0 : Nat) (x1 : Int32) (s0 : Nat) (s1 : Int32) : Option (Int32 × MH) :=
  (hP h 4 s0 0 (.int s1)).bind fun h9 =>
  (hI h9 4 x0 0).bind fun v10 =>
  if v10 ≤ 0 then
    ((vcall h9 4 x0 (f_X4_save h9 x0)).bind fun h11 =>
    (vcall h11 4 x0 (f_X4_followers h11 x0 x1)).bind fun v12 =>
    (some (v12 ||| ((1 : Int32) <<< (x1 &&& 31)))).bind fun v13 =>
    (hP h11 4 x0 6 (.int (0 : Int32))).bind fun h14 =>
    f_X4_restart_62 FU h14 x0 x1 v13 x1)
  else
    (some ((0 : Int32), h9))
def f_X4_restart (h : MH) (x0 : Nat) (x1 : Int32) : Option (Int32 × MH) :=
  (vcall h 4 x0 (f_X4_isRail h x0 x1)).bind fun v15 =>
  if v15 = 0 then
    (b_X4_restart_29 h x0 x1 x0 (1 : Int32))
  else
    ((vcall h 4 x0 (f_X4_of h x0 x1 (8 : Int32))).bind fun v16 =>
    if v16 = (1 : Int32) then
      (b_X4_restart_29 h x0 x1 x0 (0 : Int32))
    else
      (b_X4_restart_29 h x0 x1 x0 (2 : Int32)))
def b_X4_shortCircuit_51 (h : MH) (s0 : Int32) : Option (Int32 × MH) :=
  some (s0, h)
def b_X4_shortCircuit_29 (h : MH) (x0 : Nat) (x1 : Int32) (x2 : Int32) (s0 : Nat) (s1 : Int32) : Option (Int32 × MH) :=
  (hP h 4 s0 0 (.int s1)).bind fun h1 =>
  (hI h1 4 x0 0).bind fun v2 =>
  if v2 ≤ 0 then
    ((vcall h1 4 x0 (f_X4_replaced h1 x0 x1 (12 : Int32) x2)).bind fun p3 =>
    b_X4_shortCircuit_51 p3.2 p3.1)
  else
    (b_X4_shortCircuit_51 h1 (0 : Int32))
def f_X4_shortCircuit (h : MH) (x0 : Nat) (x1 : Int32) (x2 : Int32) : Option (Int32 × MH) :=
  (vcall h 4 x0 (f_X4_isRail h x0 x1)).bind fun v4 =>
  if v4 = 0 then
    (b_X4_shortCircuit_29 h x0 x1 x2 x0 (1 : Int32))
  else
    ((f_X4_within h x2 (0 : Int32) (500 : Int32)).bind fun v5 =>
    if v5 = 0 then
      (b_X4_shortCircuit_29 h x0 x1 x2 x0 (2 : Int32))
    else
      (b_X4_shortCircuit_29 h x0 x1 x2 x0 (0 : Int32)))
def b_X4_stick_49 (h : MH) (s0 : Int32) : Option (Int32 × MH) :=
  some (s0, h)
def b_X4_stick_27 (h : MH) (x0 : Nat) (x1 : Int32) (x2 : Int32) (s0 : Nat) (s1 : Int32) : Option (Int32 × MH) :=
  (hP h 4 s0 0 (.int s1)).bind fun h1 =>
  (hI h1 4 x0 0).bind fun v2 =>
  if v2 ≤ 0 then
    ((vcall h1 4 x0 (f_X4_replaced h1 x0 x1 (11 : Int32) x2)).bind fun p3 =>
    b_X4_stick_49 p3.2 p3.1)
  else
    (b_X4_stick_49 h1 (0 : Int32))
def f_X4_stick (h : MH) (x0 : Nat) (x1 : Int32) (x2 : Int32) : Option (Int32 × MH) :=
  (vcall h 4 x0 (f_X4_isRail h x0 x1)).bind fun v4 =>
  if v4 = 0 then
    (b_X4_stick_27 h x0 x1 x2 x0 (1 : Int32))
  else
    ((f_X4_within h x2 (0 : Int32) (2 : Int32)).bind fun v5 =>
    if v5 = 0 then
      (b_X4_stick_27 h x0 x1 x2 x0 (2 : Int32))
    else
      (b_X4_stick_27 h x0 x1 x2 x0 (0 : Int32)))
def b_X4_tick_58 (rec58 : MH → Nat → Int32 → Int32 → Option (Int32 × MH)) (h : MH) (x0 : Nat) (x1 : Int32) (x2 : Int32) : Option (Int32 × MH) :=
  if x1 ≤ x2 then
    ((hI h 4 x0 6).bind fun v1 =>
    some (v1, h))
  else
    ((vcall h 4 x0 (f_X4_pass h x0)).bind fun h2 =>
    rec58 h2 x0 x1 (x2 + (1 : Int32)))
def f_X4_tick_58 : Nat → MH → Nat → Int32 → Int32 → Option (Int32 × MH)
  | 0 => fun _ _ _ _ => none
  | n + 1 => fun h x0 x1 x2 => b_X4_tick_58 (f_X4_tick_58 n) h x0 x1 x2
def b_X4_tick_35 (h : MH) (x0 : Nat) (x1 : Int32) (s0 : Nat) (s1 : Int32) : Option (Int32 × MH) :=
  (hP h 4 s0 0 (.int s1)).bind fun h3 =>
  (hI h3 4 x0 0).bind fun v4 =>
  if v4 ≤ 0 then
    ((vcall h3 4 x0 (f_X4_save h3 x0)).bind fun h5 =>
    (hP h5 4 x0 6 (.int (0 : Int32))).bind fun h6 =>
    f_X4_tick_58 FU h6 x0 x1 (0 : Int32))
  else
    (some ((0 : Int32), h3))
def f_X4_tick (h : MH) (x0 : Nat) (x1 : Int32) : Option (Int32 × MH) :=
  (f_X4_within h x1 (1 : Int32) (200 : Int32)).bind fun v7 =>
  if v7 = 0 then
    (b_X4_tick_35 h x0 x1 x0 (1 : Int32))
  else
    ((hR h 4 x0 1).bind fun v8 =>
    (aI h v8 (2 : Int32)).bind fun v9 =>
    if (v9 + x1) ≤ (20000 : Int32) then
      (b_X4_tick_35 h x0 x1 x0 (0 : Int32))
    else
      (b_X4_tick_35 h x0 x1 x0 (2 : Int32)))
def b_X4_append_30 (h : MH) (x0 : Nat) (x1 : Int32) (s0 : Nat) (s1 : Int32) : Option (Int32 × MH) :=
  (hP h 4 s0 0 (.int s1)).bind fun h1 =>
  (hI h1 4 x0 0).bind fun v2 =>
  if v2 ≤ 0 then
    ((hR h1 4 x0 5).bind fun v3 =>
    (hI h1 4 x0 4).bind fun v4 =>
    (sI h1 v3 v4 x1).bind fun h5 =>
    (hI h5 4 x0 4).bind fun v6 =>
    (hP h5 4 x0 4 (.int (v6 + (1 : Int32)))).bind fun h7 =>
    (hI h7 4 x0 4).bind fun v8 =>
    some (v8, h7))
  else
    (some ((0 : Int32), h1))
def f_X4_append (h : MH) (x0 : Nat) (x1 : Int32) : Option (Int32 × MH) :=
  (f_X4_within h x1 (33 : Int32) (126 : Int32)).bind fun v9 =>
  if v9 = 0 then
    (b_X4_append_30 h x0 x1 x0 (1 : Int32))
  else
    ((hI h 4 x0 4).bind fun v10 =>
    if v10 = (60 : Int32) then
      (b_X4_append_30 h x0 x1 x0 (2 : Int32))
    else
      (b_X4_append_30 h x0 x1 x0 (0 : Int32)))
def f_X4_clearBuffer (h : MH) (x0 : Nat) : Option (Int32 × MH) :=
  (hP h 4 x0 0 (.int (0 : Int32))).bind fun h1 =>
  (hI h1 4 x0 4).bind fun v2 =>
  (hP h1 4 x0 4 (.int (0 : Int32))).bind fun h3 =>
  some (v2, h3)
def b_X4_beginRail_17 (rec17 : MH → Nat → Int32 → Option MH) (h : MH) (x0 : Nat) (x1 : Int32) : Option MH :=
  if (4 : Int32) ≤ x1 then
    (some h)
  else
    ((hR h 4 x0 14).bind fun v1 =>
    (hI h 4 x0 13).bind fun v2 =>
    (sI h v1 (((4 : Int32) * v2) + x1) (0 : Int32)).bind fun h3 =>
    rec17 h3 x0 (x1 + (1 : Int32)))
def f_X4_beginRail_17 : Nat → MH → Nat → Int32 → Option MH
  | 0 => fun _ _ _ => none
  | n + 1 => fun h x0 x1 => b_X4_beginRail_17 (f_X4_beginRail_17 n) h x0 x1
def f_X4_beginRail (h : MH) (x0 : Nat) : Option MH :=
  (hP h 4 x0 10 (.int (0 : Int32))).bind fun h4 =>
  (hP h4 4 x0 11 (.int (0 : Int32))).bind fun h5 =>
  (hP h5 4 x0 12 (.int (-1 : Int32))).bind fun h6 =>
  f_X4_beginRail_17 FU h6 x0 (0 : Int32)
def b_X4_least_13 (h : MH) (s0 : Int32) : Option Int32 :=
  some s0
def f_X4_least (h : MH) (x0 : Nat) : Option Int32 :=
  (hI h 4 x0 10).bind fun v1 =>
  if v1 = 0 then
    (b_X4_least_13 h (100 : Int32))
  else
    (b_X4_least_13 h (1 : Int32))
def b_X4_takesDigit_90 (h : MH) (x3 : Int32) (s0 : Nat) (s1 : Int32) (s2 : Int32) : Option (Int32 × MH) :=
  (hP h 4 s0 11 (.int (s1 + s2))).bind fun h1 =>
  some ((x3 &&& 1), h1)
def b_X4_takesDigit_73 (h : MH) (x0 : Nat) (x3 : Int32) (s0 : Nat) (s1 : Int32) : Option (Int32 × MH) :=
  (hP h 4 s0 12 (.int s1)).bind fun h2 =>
  (hI h2 4 x0 11).bind fun v3 =>
  if x3 = 0 then
    (b_X4_takesDigit_90 h2 x3 x0 v3 (0 : Int32))
  else
    (b_X4_takesDigit_90 h2 x3 x0 v3 (1 : Int32))
def b_X4_takesDigit_58 (h : MH) (x0 : Nat) (x1 : Int32) (x3 : Int32) (s0 : Nat) (s1 : Int32) (s2 : Int32) (s3 : Int32) : Option (Int32 × MH) :=
  (sI h s0 s1 (s2 ||| s3)).bind fun h4 =>
  if x3 = 0 then
    ((hI h4 4 x0 12).bind fun v5 =>
    b_X4_takesDigit_73 h4 x0 x3 x0 v5)
  else
    (b_X4_takesDigit_73 h4 x0 x3 x0 x1)
def b_X4_takesDigit_39 (h : MH) (x0 : Nat) (x1 : Int32) (x2 : Int32) (s0 : Int32) : Option (Int32 × MH) :=
  (hR h 4 x0 14).bind fun v6 =>
  (aI h v6 x2).bind fun v7 =>
  if s0 = 0 then
    (b_X4_takesDigit_58 h x0 x1 s0 v6 x2 v7 (0 : Int32))
  else
    (b_X4_takesDigit_58 h x0 x1 s0 v6 x2 v7 ((1 : Int32) <<< (x1 &&& 31)))
def b_X4_takesDigit_38 (h : MH) (x0 : Nat) (x1 : Int32) (x2 : Int32) : Option (Int32 × MH) :=
  b_X4_takesDigit_39 h x0 x1 x2 (0 : Int32)
def b_X4_takesDigit_181 (h : MH) (x5 : Int32) (s0 : Nat) (s1 : Int32) (s2 : Int32) : Option (Int32 × MH) :=
  (hP h 4 s0 11 (.int (s1 + s2))).bind fun h8 =>
  some ((x5 &&& 1), h8)
def b_X4_takesDigit_165 (h : MH) (x0 : Nat) (x5 : Int32) (s0 : Nat) (s1 : Int32) (s2 : Int32) : Option (Int32 × MH) :=
  (sI h s0 s1 s2).bind fun h9 =>
  (hI h9 4 x0 11).bind fun v10 =>
  if x5 = 0 then
    (b_X4_takesDigit_181 h9 x5 x0 v10 (0 : Int32))
  else
    (b_X4_takesDigit_181 h9 x5 x0 v10 (1 : Int32))
def b_X4_takesDigit_142 (h : MH) (x0 : Nat) (x2 : Int32) (x4 : Int32) (s0 : Int32) : Option (Int32 × MH) :=
  (hR h 4 x0 14).bind fun v11 =>
  if s0 = 0 then
    ((hR h 4 x0 14).bind fun v12 =>
    (aI h v12 x2).bind fun v13 =>
    b_X4_takesDigit_165 h x0 s0 v11 x2 v13)
  else
    (b_X4_takesDigit_165 h x0 s0 v11 x2 x4)
def b_X4_takesDigit_141 (h : MH) (x0 : Nat) (x2 : Int32) (x4 : Int32) : Option (Int32 × MH) :=
  b_X4_takesDigit_142 h x0 x2 x4 (0 : Int32)
def b_X4_takesDigit_112 (h : MH) (x0 : Nat) (x1 : Int32) (x2 : Int32) (s0 : Int32) : Option (Int32 × MH) :=
  (hR h 4 x0 14).bind fun v14 =>
  (aI h v14 x2).bind fun v15 =>
  (some (((10 : Int32) * v15) + x1)).bind fun v16 =>
  if v16 ≤ 0 then
    (b_X4_takesDigit_141 h x0 x2 v16)
  else
    (if s0 < v16 then
      (b_X4_takesDigit_141 h x0 x2 v16)
    else
      (b_X4_takesDigit_142 h x0 x2 v16 (1 : Int32)))
def f_X4_takesDigit (h : MH) (x0 : Nat) (x1 : Int32) : Option (Int32 × MH) :=
  (hI h 4 x0 13).bind fun v17 =>
  (hI h 4 x0 10).bind fun v18 =>
  (some (((4 : Int32) * v17) + v18)).bind fun v19 =>
  (hI h 4 x0 10).bind fun v20 =>
  if v20 = (3 : Int32) then
    ((hI h 4 x0 12).bind fun v22 =>
    if x1 ≤ v22 then
      (b_X4_takesDigit_38 h x0 x1 v19)
    else
      (if (7 : Int32) ≤ x1 then
        (b_X4_takesDigit_38 h x0 x1 v19)
      else
        (b_X4_takesDigit_39 h x0 x1 v19 (1 : Int32))))
  else
    ((hI h 4 x0 10).bind fun v21 =>
    if v21 = 0 then
      (b_X4_takesDigit_112 h x0 x1 v19 (5000 : Int32))
    else
      (b_X4_takesDigit_112 h x0 x1 v19 (1000 : Int32)))
def b_X4_isNumberOver_43 (h : MH) (s0 : Int32) : Option Int32 :=
  some (s0 &&& 1)
def b_X4_isNumberOver_42 (h : MH)  : Option Int32 :=
  b_X4_isNumberOver_43 h (0 : Int32)
def f_X4_isNumberOver (h : MH) (x0 : Nat) : Option Int32 :=
  (hI h 4 x0 10).bind fun v1 =>
  if (3 : Int32) ≤ v1 then
    (b_X4_isNumberOver_42 h )
  else
    ((hI h 4 x0 11).bind fun v2 =>
    if v2 ≤ 0 then
      (b_X4_isNumberOver_42 h )
    else
      ((hR h 4 x0 14).bind fun v3 =>
      (hI h 4 x0 13).bind fun v4 =>
      (hI h 4 x0 10).bind fun v5 =>
      (aI h v3 (((4 : Int32) * v4) + v5)).bind fun v6 =>
      (vcall h 4 x0 (f_X4_least h x0)).bind fun v7 =>
      if v6 < v7 then
        (b_X4_isNumberOver_42 h )
      else
        (b_X4_isNumberOver_43 h (1 : Int32))))
def b_X4_isRailOver_43 (h : MH) (s0 : Int32) : Option Int32 :=
  some (s0 &&& 1)
def b_X4_isRailOver_42 (h : MH)  : Option Int32 :=
  b_X4_isRailOver_43 h (0 : Int32)
def f_X4_isRailOver (h : MH) (x0 : Nat) : Option Int32 :=
  (hI h 4 x0 10).bind fun v1 =>
  if v1 = (3 : Int32) then
    ((hI h 4 x0 11).bind fun v4 =>
    if v4 ≤ 0 then
      (b_X4_isRailOver_43 h (0 : Int32))
    else
      (b_X4_isRailOver_43 h (1 : Int32)))
  else
    ((hI h 4 x0 10).bind fun v2 =>
    if v2 = (2 : Int32) then
      ((vcall h 4 x0 (f_X4_isNumberOver h x0)).bind fun v3 =>
      if v3 = 0 then
        (b_X4_isRailOver_42 h )
      else
        (b_X4_isRailOver_43 h (1 : Int32)))
    else
      (b_X4_isRailOver_42 h ))
def b_X4_takes_118 (h : MH) : Option (Int32 × MH) :=
  some (((0 : Int32) &&& 1), h)
def b_X4_takes_67 (h : MH) (x0 : Nat) (x1 : Int32) (s0 : Int32) : Option (Int32 × MH) :=
  if s0 = 0 then
    (if x1 = (59 : Int32) then
      ((vcall h 4 x0 (f_X4_isRailOver h x0)).bind fun v1 =>
      if v1 = 0 then
        (b_X4_takes_118 h)
      else
        ((hI h 4 x0 13).bind fun v2 =>
        (hP h 4 x0 13 (.int (v2 + (1 : Int32)))).bind fun h3 =>
        (vcall h3 4 x0 (f_X4_beginRail h3 x0)).bind fun h4 =>
        some (((1 : Int32) &&& 1), h4)))
    else
      (b_X4_takes_118 h))
  else
    ((hI h 4 x0 10).bind fun v5 =>
    (hP h 4 x0 10 (.int (v5 + (1 : Int32)))).bind fun h6 =>
    (hP h6 4 x0 11 (.int (0 : Int32))).bind fun h7 =>
    some (((1 : Int32) &&& 1), h7))
def b_X4_takes_66 (h : MH) (x0 : Nat) (x1 : Int32) : Option (Int32 × MH) :=
  b_X4_takes_67 h x0 x1 (0 : Int32)
def b_X4_takes_62 (h : MH) (x0 : Nat) (x1 : Int32) : Option (Int32 × MH) :=
  b_X4_takes_67 h x0 x1 (1 : Int32)
def b_X4_takes_41 (h : MH) (x0 : Nat) (x1 : Int32) : Option (Int32 × MH) :=
  if x1 = (60 : Int32) then
    ((hI h 4 x0 10).bind fun v8 =>
    if v8 = (2 : Int32) then
      ((vcall h 4 x0 (f_X4_isNumberOver h x0)).bind fun v9 =>
      if v9 = 0 then
        (b_X4_takes_66 h x0 x1)
      else
        (b_X4_takes_62 h x0 x1))
    else
      (b_X4_takes_66 h x0 x1))
  else
    (b_X4_takes_66 h x0 x1)
def f_X4_takes (h : MH) (x0 : Nat) (x1 : Int32) : Option (Int32 × MH) :=
  (f_X4_within h x1 (48 : Int32) (57 : Int32)).bind fun v10 =>
  if v10 = 0 then
    (if x1 = (47 : Int32) then
      ((hI h 4 x0 10).bind fun v11 =>
      if (2 : Int32) ≤ v11 then
        (b_X4_takes_41 h x0 x1)
      else
        ((vcall h 4 x0 (f_X4_isNumberOver h x0)).bind fun v12 =>
        if v12 = 0 then
          (b_X4_takes_41 h x0 x1)
        else
          (b_X4_takes_62 h x0 x1)))
    else
      (b_X4_takes_41 h x0 x1))
  else
    ((vcall h 4 x0 (f_X4_takesDigit h x0 (x1 - (48 : Int32)))).bind fun p13 =>
    some ((p13.1 &&& 1), p13.2))
def b_X4_readText_38 (h : MH) (x1 : Int32) : Option (Int32 × MH) :=
  some (x1, h)
def b_X4_readText_11 (rec11 : MH → Nat → Int32 → Option (Int32 × MH)) (h : MH) (x0 : Nat) (x1 : Int32) : Option (Int32 × MH) :=
  (hI h 4 x0 4).bind fun v1 =>
  if v1 ≤ x1 then
    (b_X4_readText_38 h x1)
  else
    ((hR h 4 x0 5).bind fun v2 =>
    (aI h v2 x1).bind fun v3 =>
    (vcall h 4 x0 (f_X4_takes h x0 v3)).bind fun p4 =>
    if p4.1 = 0 then
      (b_X4_readText_38 p4.2 x1)
    else
      (rec11 p4.2 x0 (x1 + (1 : Int32))))
def f_X4_readText_11 : Nat → MH → Nat → Int32 → Option (Int32 × MH)
  | 0 => fun _ _ _ => none
  | n + 1 => fun h x0 x1 => b_X4_readText_11 (f_X4_readText_11 n) h x0 x1
def f_X4_readText (h : MH) (x0 : Nat) : Option (Int32 × MH) :=
  (hP h 4 x0 13 (.int (0 : Int32))).bind fun h5 =>
  (vcall h5 4 x0 (f_X4_beginRail h5 x0)).bind fun h6 =>
  f_X4_readText_11 FU h6 x0 (0 : Int32)
def f_X4_firstError (h : MH) (x0 : Nat) : Option (Int32 × MH) :=
  (hP h 4 x0 0 (.int (0 : Int32))).bind fun h1 =>
  (vcall h1 4 x0 (f_X4_readText h1 x0)).bind fun p2 =>
  some (p2.1, p2.2)
def b_X4_isEarlier_66 (h : MH) (rec24 : Nat → Int32 → Int32 → Option Int32) (x0 : Nat) (x2 : Int32) (s0 : Int32) : Option Int32 :=
  rec24 x0 s0 (x2 + (1 : Int32))
def b_X4_isEarlier_65 (h : MH) (rec24 : Nat → Int32 → Int32 → Option Int32) (x0 : Nat) (x2 : Int32) : Option Int32 :=
  b_X4_isEarlier_66 h rec24 x0 x2 (0 : Int32)
def b_X4_isEarlier_24 (h : MH) (rec24 : Nat → Int32 → Int32 → Option Int32) (x0 : Nat) (x1 : Int32) (x2 : Int32) : Option Int32 :=
  (hI h 4 x0 13).bind fun v1 =>
  if v1 < x2 then
    (some (x1 &&& 1))
  else
    (if x1 = 0 then
      (b_X4_isEarlier_65 h rec24 x0 x2)
    else
      ((hR h 4 x0 14).bind fun v2 =>
      (aI h v2 (((4 : Int32) * x2) + (3 : Int32))).bind fun v3 =>
      (hR h 4 x0 1).bind fun v4 =>
      (aI h v4 (0 : Int32)).bind fun v5 =>
      (vcall h 4 x0 (f_X4_isMask h x0 v3 (v5 + x2))).bind fun v6 =>
      if v6 = 0 then
        (b_X4_isEarlier_65 h rec24 x0 x2)
      else
        (b_X4_isEarlier_66 h rec24 x0 x2 (1 : Int32))))
def f_X4_isEarlier_24 (h : MH) : Nat → Nat → Int32 → Int32 → Option Int32
  | 0 => fun _ _ _ => none
  | n + 1 => fun x0 x1 x2 => b_X4_isEarlier_24 h (f_X4_isEarlier_24 h n) x0 x1 x2
def b_X4_isEarlier_21 (h : MH) (x0 : Nat) (s0 : Int32) : Option Int32 :=
  f_X4_isEarlier_24 h FU x0 s0 (0 : Int32)
def f_X4_isEarlier (h : MH) (x0 : Nat) : Option Int32 :=
  (hR h 4 x0 1).bind fun v7 =>
  (aI h v7 (0 : Int32)).bind fun v8 =>
  (hI h 4 x0 13).bind fun v9 =>
  if (8 : Int32) ≤ (v8 + v9) then
    (b_X4_isEarlier_21 h x0 (0 : Int32))
  else
    (b_X4_isEarlier_21 h x0 (1 : Int32))
def b_X4_load_63 (rec63 : MH → Nat → Int32 → Option (Int32 × MH)) (h : MH) (x0 : Nat) (x2 : Int32) : Option (Int32 × MH) :=
  (hI h 4 x0 13).bind fun v1 =>
  if v1 < x2 then
    ((hP h 4 x0 4 (.int (0 : Int32))).bind fun h2 =>
    (hR h2 4 x0 1).bind fun v3 =>
    (aI h2 v3 (0 : Int32)).bind fun v4 =>
    some (v4, h2))
  else
    ((hR h 4 x0 14).bind fun v5 =>
    (aI h v5 ((4 : Int32) * x2)).bind fun v6 =>
    (hR h 4 x0 14).bind fun v7 =>
    (aI h v7 (((4 : Int32) * x2) + (1 : Int32))).bind fun v8 =>
    (hR h 4 x0 14).bind fun v9 =>
    (aI h v9 (((4 : Int32) * x2) + (2 : Int32))).bind fun v10 =>
    (hR h 4 x0 14).bind fun v11 =>
    (aI h v11 (((4 : Int32) * x2) + (3 : Int32))).bind fun v12 =>
    (vcall h 4 x0 (f_X4_bring h x0 v6 v8 v10 v12)).bind fun h13 =>
    rec63 h13 x0 (x2 + (1 : Int32)))
def f_X4_load_63 : Nat → MH → Nat → Int32 → Option (Int32 × MH)
  | 0 => fun _ _ _ => none
  | n + 1 => fun h x0 x2 => b_X4_load_63 (f_X4_load_63 n) h x0 x2
def b_X4_load_45 (h : MH) (x0 : Nat) (s0 : Nat) (s1 : Int32) : Option (Int32 × MH) :=
  (hP h 4 s0 0 (.int s1)).bind fun h14 =>
  (hI h14 4 x0 0).bind fun v15 =>
  if v15 ≤ 0 then
    ((vcall h14 4 x0 (f_X4_save h14 x0)).bind fun h16 =>
    f_X4_load_63 FU h16 x0 (0 : Int32))
  else
    (some ((0 : Int32), h14))
def b_X4_load_23 (h : MH) (x0 : Nat) (s0 : Int32) : Option (Int32 × MH) :=
  if s0 = 0 then
    (b_X4_load_45 h x0 x0 (1 : Int32))
  else
    ((vcall h 4 x0 (f_X4_isEarlier h x0)).bind fun v17 =>
    if v17 = 0 then
      (b_X4_load_45 h x0 x0 (2 : Int32))
    else
      (b_X4_load_45 h x0 x0 (0 : Int32)))
def b_X4_load_22 (h : MH) (x0 : Nat) : Option (Int32 × MH) :=
  b_X4_load_23 h x0 (0 : Int32)
def f_X4_load (h : MH) (x0 : Nat) : Option (Int32 × MH) :=
  (vcall h 4 x0 (f_X4_readText h x0)).bind fun p18 =>
  (hI p18.2 4 x0 4).bind fun v19 =>
  if p18.1 = v19 then
    ((vcall p18.2 4 x0 (f_X4_isRailOver p18.2 x0)).bind fun v20 =>
    if v20 = 0 then
      (b_X4_load_22 p18.2 x0)
    else
      (b_X4_load_23 p18.2 x0 (1 : Int32)))
  else
    (b_X4_load_22 p18.2 x0)
def b_X4_firstBlame_46 (h : MH) (x2 : Int32) : Option Int32 :=
  some x2
def b_X4_firstBlame_8 (h : MH) (rec8 : Nat → Int32 → Option Int32) (x0 : Nat) (x2 : Int32) : Option Int32 :=
  if x2 = (-1 : Int32) then
    (b_X4_firstBlame_46 h x2)
  else
    ((vcall h 4 x0 (f_X4_of h x0 x2 (15 : Int32))).bind fun v1 =>
    if v1 = (-1 : Int32) then
      (b_X4_firstBlame_46 h x2)
    else
      ((vcall h 4 x0 (f_X4_of h x0 x2 (15 : Int32))).bind fun v2 =>
      if v2 = x2 then
        (b_X4_firstBlame_46 h x2)
      else
        ((vcall h 4 x0 (f_X4_of h x0 x2 (15 : Int32))).bind fun v3 =>
        rec8 x0 v3)))
def f_X4_firstBlame_8 (h : MH) : Nat → Nat → Int32 → Option Int32
  | 0 => fun _ _ => none
  | n + 1 => fun x0 x2 => b_X4_firstBlame_8 h (f_X4_firstBlame_8 h n) x0 x2
def f_X4_firstBlame (h : MH) (x0 : Nat) (x1 : Int32) : Option Int32 :=
  (vcall h 4 x0 (f_X4_of h x0 x1 (15 : Int32))).bind fun v4 =>
  f_X4_firstBlame_8 h FU x0 v4
def b_X4_railNow_103 (h : MH) (s0 : Int32) : Option Int32 :=
  some s0
def f_X4_railNow (h : MH) (x0 : Nat) (x1 : Int32) (x2 : Int32) : Option Int32 :=
  if x2 = 8 then
  ((vcall h 4 x0 (f_X4_followers h x0 x1)).bind fun v1 =>
  some v1)
 else
  if x2 = 9 then
  ((vcall h 4 x0 (f_X4_of h x0 x1 (8 : Int32))).bind fun v2 =>
  some v2)
 else
  if x2 = 10 then
  ((vcall h 4 x0 (f_X4_of h x0 x1 (9 : Int32))).bind fun v3 =>
  some v3)
 else
  if x2 = 11 then
  ((vcall h 4 x0 (f_X4_of h x0 x1 (10 : Int32))).bind fun v4 =>
  some v4)
 else
  if x2 = 12 then
  ((vcall h 4 x0 (f_X4_isFlag h x0 x1)).bind fun v5 =>
  if v5 = 0 then
    (b_X4_railNow_103 h (0 : Int32))
  else
    (b_X4_railNow_103 h (1 : Int32)))
 else
  if x2 = 13 then
  ((vcall h 4 x0 (f_X4_of h x0 x1 (11 : Int32))).bind fun v6 =>
  some v6)
 else
  if x2 = 14 then
  ((vcall h 4 x0 (f_X4_of h x0 x1 (12 : Int32))).bind fun v7 =>
  some v7)
 else
  if x2 = 15 then
  ((vcall h 4 x0 (f_X4_of h x0 x1 (13 : Int32))).bind fun v8 =>
  some v8)
 else
  if x2 = 16 then
  ((vcall h 4 x0 (f_X4_of h x0 x1 (14 : Int32))).bind fun v9 =>
  some v9)
 else
  if x2 = 17 then
  ((vcall h 4 x0 (f_X4_of h x0 x1 (15 : Int32))).bind fun v10 =>
  some v10)
 else
  if x2 = 18 then
  ((vcall h 4 x0 (f_X4_firstBlame h x0 x1)).bind fun v11 =>
  some v11)
 else
  ((vcall h 4 x0 (f_X4_of h x0 x1 x2)).bind fun v12 =>
  some v12)
def b_X4_rail_48 (h : MH) (s0 : Int32) : Option (Int32 × MH) :=
  some (s0, h)
def b_X4_rail_28 (h : MH) (x0 : Nat) (x1 : Int32) (x2 : Int32) (s0 : Nat) (s1 : Int32) : Option (Int32 × MH) :=
  (hP h 4 s0 0 (.int s1)).bind fun h1 =>
  (hI h1 4 x0 0).bind fun v2 =>
  if v2 ≤ 0 then
    ((vcall h1 4 x0 (f_X4_railNow h1 x0 x1 x2)).bind fun v3 =>
    b_X4_rail_48 h1 v3)
  else
    (b_X4_rail_48 h1 (0 : Int32))
def f_X4_rail (h : MH) (x0 : Nat) (x1 : Int32) (x2 : Int32) : Option (Int32 × MH) :=
  (vcall h 4 x0 (f_X4_isRail h x0 x1)).bind fun v4 =>
  if v4 = 0 then
    (b_X4_rail_28 h x0 x1 x2 x0 (1 : Int32))
  else
    ((f_X4_within h x2 (0 : Int32) (18 : Int32)).bind fun v5 =>
    if v5 = 0 then
      (b_X4_rail_28 h x0 x1 x2 x0 (2 : Int32))
    else
      (b_X4_rail_28 h x0 x1 x2 x0 (0 : Int32)))
def b_X4_account_50 (h : MH) (s0 : Int32) : Option (Int32 × MH) :=
  some (s0, h)
def b_X4_account_27 (h : MH) (x0 : Nat) (x1 : Int32) (x2 : Int32) (s0 : Nat) (s1 : Int32) : Option (Int32 × MH) :=
  (hP h 4 s0 0 (.int s1)).bind fun h1 =>
  (hI h1 4 x0 0).bind fun v2 =>
  if v2 ≤ 0 then
    ((vcall h1 4 x0 (f_X4_of h1 x0 x1 ((16 : Int32) + x2))).bind fun v3 =>
    b_X4_account_50 h1 v3)
  else
    (b_X4_account_50 h1 (0 : Int32))
def f_X4_account (h : MH) (x0 : Nat) (x1 : Int32) (x2 : Int32) : Option (Int32 × MH) :=
  (vcall h 4 x0 (f_X4_isRail h x0 x1)).bind fun v4 =>
  if v4 = 0 then
    (b_X4_account_27 h x0 x1 x2 x0 (1 : Int32))
  else
    ((f_X4_within h x2 (0 : Int32) (3 : Int32)).bind fun v5 =>
    if v5 = 0 then
      (b_X4_account_27 h x0 x1 x2 x0 (2 : Int32))
    else
      (b_X4_account_27 h x0 x1 x2 x0 (0 : Int32)))
def b_X4_entryNow_35 (h : MH) (s0 : Int32) : Option Int32 :=
  some s0
def f_X4_entryNow (h : MH) (x0 : Nat) (x1 : Int32) (x2 : Int32) : Option Int32 :=
  (hR h 4 x0 1).bind fun v1 =>
  (aI h v1 (3 : Int32)).bind fun v2 =>
  if v2 ≤ x1 then
    (b_X4_entryNow_35 h (-1 : Int32))
  else
    ((hR h 4 x0 1).bind fun v3 =>
    (hR h 4 x0 1).bind fun v4 =>
    (aI h v4 (3 : Int32)).bind fun v5 =>
    (aI h v3 (((4 : Int32) + ((4 : Int32) * ((v5 - (1 : Int32)) - x1))) + x2)).bind fun v6 =>
    b_X4_entryNow_35 h v6)
def b_X4_entry_45 (h : MH) (s0 : Int32) : Option (Int32 × MH) :=
  some (s0, h)
def b_X4_entry_25 (h : MH) (x0 : Nat) (x1 : Int32) (x2 : Int32) (s0 : Nat) (s1 : Int32) : Option (Int32 × MH) :=
  (hP h 4 s0 0 (.int s1)).bind fun h1 =>
  (hI h1 4 x0 0).bind fun v2 =>
  if v2 ≤ 0 then
    ((vcall h1 4 x0 (f_X4_entryNow h1 x0 x1 x2)).bind fun v3 =>
    b_X4_entry_45 h1 v3)
  else
    (b_X4_entry_45 h1 (0 : Int32))
def b_X4_entry_24 (h : MH) (x0 : Nat) (x1 : Int32) (x2 : Int32) (s0 : Nat) : Option (Int32 × MH) :=
  b_X4_entry_25 h x0 x1 x2 s0 (1 : Int32)
def f_X4_entry (h : MH) (x0 : Nat) (x1 : Int32) (x2 : Int32) : Option (Int32 × MH) :=
  (f_X4_within h x1 (0 : Int32) (15 : Int32)).bind fun v4 =>
  if v4 = 0 then
    (b_X4_entry_24 h x0 x1 x2 x0)
  else
    ((f_X4_within h x2 (0 : Int32) (3 : Int32)).bind fun v5 =>
    if v5 = 0 then
      (b_X4_entry_24 h x0 x1 x2 x0)
    else
      (b_X4_entry_25 h x0 x1 x2 x0 (0 : Int32)))
def b_X4_forget_110 (rec42 : MH → Nat → Int32 → Int32 → Int32 → Int32 → Option (Int32 × MH)) (h : MH) (x0 : Nat) (x1 : Int32) (x2 : Int32) (x3 : Int32) (x4 : Int32) : Option (Int32 × MH) :=
  rec42 h x0 x1 x2 x3 (x4 + (1 : Int32))
def b_X4_forget_68 (rec42 : MH → Nat → Int32 → Int32 → Int32 → Int32 → Option (Int32 × MH)) (rec68 : MH → Nat → Int32 → Int32 → Int32 → Int32 → Int32 → Option (Int32 × MH)) (h : MH) (x0 : Nat) (x1 : Int32) (x2 : Int32) (x3 : Int32) (x4 : Int32) (x5 : Int32) : Option (Int32 × MH) :=
  if (4 : Int32) ≤ x5 then
    (b_X4_forget_110 rec42 h x0 x1 (x2 + (1 : Int32)) x3 x4)
  else
    ((hR h 4 x0 1).bind fun v1 =>
    (hR h 4 x0 1).bind fun v2 =>
    (aI h v2 (((4 : Int32) + ((4 : Int32) * x4)) + x5)).bind fun v3 =>
    (sI h v1 (((4 : Int32) + ((4 : Int32) * x2)) + x5) v3).bind fun h4 =>
    rec68 h4 x0 x1 x2 x3 x4 (x5 + (1 : Int32)))
def f_X4_forget_68 (rec42 : MH → Nat → Int32 → Int32 → Int32 → Int32 → Option (Int32 × MH)) : Nat → MH → Nat → Int32 → Int32 → Int32 → Int32 → Int32 → Option (Int32 × MH)
  | 0 => fun _ _ _ _ _ _ _ => none
  | n + 1 => fun h x0 x1 x2 x3 x4 x5 => b_X4_forget_68 rec42 (f_X4_forget_68 rec42 n) h x0 x1 x2 x3 x4 x5
def b_X4_forget_42 (rec42 : MH → Nat → Int32 → Int32 → Int32 → Int32 → Option (Int32 × MH)) (h : MH) (x0 : Nat) (x1 : Int32) (x2 : Int32) (x3 : Int32) (x4 : Int32) : Option (Int32 × MH) :=
  if x3 ≤ x4 then
    ((hR h 4 x0 1).bind fun v5 =>
    (sI h v5 (3 : Int32) x2).bind fun h6 =>
    some ((x3 - x2), h6))
  else
    ((hR h 4 x0 1).bind fun v7 =>
    (aI h v7 (((4 : Int32) + ((4 : Int32) * x4)) + (1 : Int32))).bind fun v8 =>
    if v8 = x1 then
      (b_X4_forget_110 rec42 h x0 x1 x2 x3 x4)
    else
      (f_X4_forget_68 rec42 FU h x0 x1 x2 x3 x4 (0 : Int32)))
def f_X4_forget_42 : Nat → MH → Nat → Int32 → Int32 → Int32 → Int32 → Option (Int32 × MH)
  | 0 => fun _ _ _ _ _ _ => none
  | n + 1 => fun h x0 x1 x2 x3 x4 => b_X4_forget_42 (f_X4_forget_42 n) h x0 x1 x2 x3 x4
def b_X4_forget_14 (h : MH) (x0 : Nat) (x1 : Int32) (s0 : Nat) (s1 : Int32) : Option (Int32 × MH) :=
  (hP h 4 s0 0 (.int s1)).bind fun h9 =>
  (hI h9 4 x0 0).bind fun v10 =>
  if v10 ≤ 0 then
    ((vcall h9 4 x0 (f_X4_save h9 x0)).bind fun h11 =>
    (hR h11 4 x0 1).bind fun v12 =>
    (aI h11 v12 (3 : Int32)).bind fun v13 =>
    f_X4_forget_42 FU h11 x0 x1 (0 : Int32) v13 (0 : Int32))
  else
    (some ((0 : Int32), h9))
def f_X4_forget (h : MH) (x0 : Nat) (x1 : Int32) : Option (Int32 × MH) :=
  (vcall h 4 x0 (f_X4_isRail h x0 x1)).bind fun v14 =>
  if v14 = 0 then
    (b_X4_forget_14 h x0 x1 x0 (1 : Int32))
  else
    (b_X4_forget_14 h x0 x1 x0 (0 : Int32))
def b_X4_voltages_4 (h : MH) (rec4 : Nat → Int32 → Int32 → Option Int32) (x0 : Nat) (x1 : Int32) (x2 : Int32) : Option Int32 :=
  (hR h 4 x0 1).bind fun v1 =>
  (aI h v1 (0 : Int32)).bind fun v2 =>
  if v2 ≤ x2 then
    (some x1)
  else
    ((vcall h 4 x0 (f_X4_of h x0 x2 (10 : Int32))).bind fun v3 =>
    (some (x1 + v3)).bind fun v4 =>
    rec4 x0 v4 (x2 + (1 : Int32)))
def f_X4_voltages_4 (h : MH) : Nat → Nat → Int32 → Int32 → Option Int32
  | 0 => fun _ _ _ => none
  | n + 1 => fun x0 x1 x2 => b_X4_voltages_4 h (f_X4_voltages_4 h n) x0 x1 x2
def f_X4_voltages (h : MH) (x0 : Nat) : Option Int32 :=
  f_X4_voltages_4 h FU x0 (0 : Int32) (0 : Int32)
def b_X4_isStill_102 (rec12 : MH → Nat → Int32 → Int32 → Option (Int32 × MH)) (h : MH) (x0 : Nat) (x2 : Int32) (s0 : Int32) : Option (Int32 × MH) :=
  rec12 h x0 s0 (x2 + (1 : Int32))
def b_X4_isStill_101 (rec12 : MH → Nat → Int32 → Int32 → Option (Int32 × MH)) (h : MH) (x0 : Nat) (x2 : Int32) : Option (Int32 × MH) :=
  b_X4_isStill_102 rec12 h x0 x2 (0 : Int32)
def b_X4_isStill_12 (rec12 : MH → Nat → Int32 → Int32 → Option (Int32 × MH)) (h : MH) (x0 : Nat) (x1 : Int32) (x2 : Int32) : Option (Int32 × MH) :=
  (hR h 4 x0 1).bind fun v1 =>
  (aI h v1 (0 : Int32)).bind fun v2 =>
  if v2 ≤ x2 then
    ((vcall h 4 x0 (f_X4_takeBack h x0)).bind fun h3 =>
    some ((x1 &&& 1), h3))
  else
    ((some ((68 : Int32) + ((20 : Int32) * x2))).bind fun v4 =>
    if x1 = 0 then
      (b_X4_isStill_101 rec12 h x0 x2)
    else
      ((hR h 4 x0 1).bind fun v5 =>
      (aI h v5 (v4 + (10 : Int32))).bind fun v6 =>
      (hR h 4 x0 9).bind fun v7 =>
      (aI h v7 (v4 + (10 : Int32))).bind fun v8 =>
      if v6 = v8 then
        ((hR h 4 x0 1).bind fun v9 =>
        (aI h v9 (v4 + (9 : Int32))).bind fun v10 =>
        (hR h 4 x0 9).bind fun v11 =>
        (aI h v11 (v4 + (9 : Int32))).bind fun v12 =>
        if v10 = v12 then
          ((hR h 4 x0 1).bind fun v13 =>
          (aI h v13 (v4 + (13 : Int32))).bind fun v14 =>
          (hR h 4 x0 9).bind fun v15 =>
          (aI h v15 (v4 + (13 : Int32))).bind fun v16 =>
          if v14 = v16 then
            (b_X4_isStill_102 rec12 h x0 x2 (1 : Int32))
          else
            (b_X4_isStill_101 rec12 h x0 x2))
        else
          (b_X4_isStill_101 rec12 h x0 x2))
      else
        (b_X4_isStill_101 rec12 h x0 x2)))
def f_X4_isStill_12 : Nat → MH → Nat → Int32 → Int32 → Option (Int32 × MH)
  | 0 => fun _ _ _ _ => none
  | n + 1 => fun h x0 x1 x2 => b_X4_isStill_12 (f_X4_isStill_12 n) h x0 x1 x2
def f_X4_isStill (h : MH) (x0 : Nat) : Option (Int32 × MH) :=
  (vcall h 4 x0 (f_X4_keepAside h x0)).bind fun h17 =>
  (vcall h17 4 x0 (f_X4_pass h17 x0)).bind fun h18 =>
  f_X4_isStill_12 FU h18 x0 (1 : Int32) (0 : Int32)
def b_X4_counted_126 (h : MH) (s0 : Int32) : Option (Int32 × MH) :=
  some (s0, h)
def f_X4_counted (h : MH) (x0 : Nat) (x1 : Int32) : Option (Int32 × MH) :=
  if x1 = 0 then
  ((hR h 4 x0 1).bind fun v1 =>
  (aI h v1 (0 : Int32)).bind fun v2 =>
  some (v2, h))
 else
  if x1 = 1 then
  ((hR h 4 x0 1).bind fun v3 =>
  (aI h v3 (2 : Int32)).bind fun v4 =>
  some (v4, h))
 else
  if x1 = 2 then
  ((hR h 4 x0 1).bind fun v5 =>
  (aI h v5 (1 : Int32)).bind fun v6 =>
  some (v6, h))
 else
  if x1 = 3 then
  ((vcall h 4 x0 (f_X4_maskOf h x0 (8 : Int32) (1 : Int32))).bind fun v7 =>
  some (v7, h))
 else
  if x1 = 4 then
  ((vcall h 4 x0 (f_X4_maskOf h x0 (9 : Int32) (3 : Int32))).bind fun v8 =>
  some (v8, h))
 else
  if x1 = 5 then
  ((vcall h 4 x0 (f_X4_maskOf h x0 (9 : Int32) (5 : Int32))).bind fun v9 =>
  some (v9, h))
 else
  if x1 = 6 then
  ((hR h 4 x0 1).bind fun v10 =>
  (aI h v10 (3 : Int32)).bind fun v11 =>
  some (v11, h))
 else
  if x1 = 7 then
  ((vcall h 4 x0 (f_X4_voltages h x0)).bind fun v12 =>
  some (v12, h))
 else
  if x1 = 8 then
  ((hI h 4 x0 2).bind fun v13 =>
  some (v13, h))
 else
  ((vcall h 4 x0 (f_X4_isStill h x0)).bind fun p14 =>
  if p14.1 = 0 then
    (b_X4_counted_126 p14.2 (0 : Int32))
  else
    (b_X4_counted_126 p14.2 (1 : Int32)))
def b_X4_count_35 (h : MH) (s0 : Int32) : Option (Int32 × MH) :=
  some (s0, h)
def b_X4_count_16 (h : MH) (x0 : Nat) (x1 : Int32) (s0 : Nat) (s1 : Int32) : Option (Int32 × MH) :=
  (hP h 4 s0 0 (.int s1)).bind fun h1 =>
  (hI h1 4 x0 0).bind fun v2 =>
  if v2 ≤ 0 then
    ((vcall h1 4 x0 (f_X4_counted h1 x0 x1)).bind fun p3 =>
    b_X4_count_35 p3.2 p3.1)
  else
    (b_X4_count_35 h1 (0 : Int32))
def f_X4_count (h : MH) (x0 : Nat) (x1 : Int32) : Option (Int32 × MH) :=
  (f_X4_within h x1 (0 : Int32) (9 : Int32)).bind fun v4 =>
  if v4 = 0 then
    (b_X4_count_16 h x0 x1 x0 (1 : Int32))
  else
    (b_X4_count_16 h x0 x1 x0 (0 : Int32))
def b_X4_isAllGood_25 (h : MH) (s0 : Int32) : Option Int32 :=
  some (s0 &&& 1)
def f_X4_isAllGood (h : MH) (x0 : Nat) : Option Int32 :=
  (vcall h 4 x0 (f_X4_maskOf h x0 (8 : Int32) (1 : Int32))).bind fun v1 =>
  (vcall h 4 x0 (f_X4_maskOf h x0 (9 : Int32) (3 : Int32))).bind fun v2 =>
  if (v1 &&& (v2 ^^^ (-1 : Int32))) = 0 then
    (b_X4_isAllGood_25 h (1 : Int32))
  else
    (b_X4_isAllGood_25 h (0 : Int32))
def b_X4_isAllOff_49 (h : MH) (rec22 : Nat → Int32 → Int32 → Option Int32) (x0 : Nat) (x2 : Int32) (s0 : Int32) : Option Int32 :=
  rec22 x0 s0 (x2 + (1 : Int32))
def b_X4_isAllOff_48 (h : MH) (rec22 : Nat → Int32 → Int32 → Option Int32) (x0 : Nat) (x2 : Int32) : Option Int32 :=
  b_X4_isAllOff_49 h rec22 x0 x2 (0 : Int32)
def b_X4_isAllOff_22 (h : MH) (rec22 : Nat → Int32 → Int32 → Option Int32) (x0 : Nat) (x1 : Int32) (x2 : Int32) : Option Int32 :=
  (hR h 4 x0 1).bind fun v1 =>
  (aI h v1 (0 : Int32)).bind fun v2 =>
  if v2 ≤ x2 then
    (some (x1 &&& 1))
  else
    (if x1 = 0 then
      (b_X4_isAllOff_48 h rec22 x0 x2)
    else
      ((vcall h 4 x0 (f_X4_isDischarged h x0 x2)).bind fun v3 =>
      if v3 = 0 then
        (b_X4_isAllOff_48 h rec22 x0 x2)
      else
        (b_X4_isAllOff_49 h rec22 x0 x2 (1 : Int32))))
def f_X4_isAllOff_22 (h : MH) : Nat → Nat → Int32 → Int32 → Option Int32
  | 0 => fun _ _ _ => none
  | n + 1 => fun x0 x1 x2 => b_X4_isAllOff_22 h (f_X4_isAllOff_22 h n) x0 x1 x2
def b_X4_isAllOff_19 (h : MH) (x0 : Nat) (s0 : Int32) : Option Int32 :=
  f_X4_isAllOff_22 h FU x0 s0 (0 : Int32)
def f_X4_isAllOff (h : MH) (x0 : Nat) : Option Int32 :=
  (vcall h 4 x0 (f_X4_maskOf h x0 (9 : Int32) (0 : Int32))).bind fun v4 =>
  (vcall h 4 x0 (f_X4_allRails h x0)).bind fun v5 =>
  if v4 = v5 then
    (b_X4_isAllOff_19 h x0 (1 : Int32))
  else
    (b_X4_isAllOff_19 h x0 (0 : Int32))
def b_X4_goesIn_72 (h : MH) (s0 : Int32) : Option (Int32 × MH) :=
  some (s0, h)
def b_X4_goesIn_56 (h : MH) (x0 : Nat) (x2 : Int32) : Option (Int32 × MH) :=
  (vcall h 4 x0 (f_X4_takeBack h x0)).bind fun h1 =>
  if x2 ≤ (1000 : Int32) then
    (b_X4_goesIn_72 h1 x2)
  else
    (b_X4_goesIn_72 h1 (-1 : Int32))
def b_X4_goesIn_46 (rec18 : MH → Nat → Int32 → Int32 → Option (Int32 × MH)) (h : MH) (x0 : Nat) (x1 : Int32) (x2 : Int32) : Option (Int32 × MH) :=
  (vcall h 4 x0 (f_X4_pass h x0)).bind fun h2 =>
  rec18 h2 x0 x1 (x2 + (1 : Int32))
def b_X4_goesIn_18 (rec18 : MH → Nat → Int32 → Int32 → Option (Int32 × MH)) (h : MH) (x0 : Nat) (x1 : Int32) (x2 : Int32) : Option (Int32 × MH) :=
  if (1000 : Int32) < x2 then
    (b_X4_goesIn_56 h x0 x2)
  else
    (if x1 = 0 then
      ((vcall h 4 x0 (f_X4_isAllGood h x0)).bind fun v3 =>
      if v3 = 0 then
        (b_X4_goesIn_46 rec18 h x0 x1 x2)
      else
        (b_X4_goesIn_56 h x0 x2))
    else
      ((vcall h 4 x0 (f_X4_isAllOff h x0)).bind fun v4 =>
      if v4 = 0 then
        (b_X4_goesIn_46 rec18 h x0 x1 x2)
      else
        (b_X4_goesIn_56 h x0 x2)))
def f_X4_goesIn_18 : Nat → MH → Nat → Int32 → Int32 → Option (Int32 × MH)
  | 0 => fun _ _ _ _ => none
  | n + 1 => fun h x0 x1 x2 => b_X4_goesIn_18 (f_X4_goesIn_18 n) h x0 x1 x2
def b_X4_goesIn_16 (h : MH) (x0 : Nat) (x1 : Int32) : Option (Int32 × MH) :=
  f_X4_goesIn_18 FU h x0 x1 (0 : Int32)
def f_X4_goesIn (h : MH) (x0 : Nat) (x1 : Int32) : Option (Int32 × MH) :=
  (vcall h 4 x0 (f_X4_keepAside h x0)).bind fun h5 =>
  if x1 = 0 then
    (b_X4_goesIn_16 h5 x0 x1)
  else
    ((vcall h5 4 x0 (f_X4_allRails h5 x0)).bind fun v6 =>
    (vcall h5 4 x0 (f_X4_unwant h5 x0 v6)).bind fun h7 =>
    b_X4_goesIn_16 h7 x0 x1)
def f_X4_allGoodIn (h : MH) (x0 : Nat) : Option (Int32 × MH) :=
  (hP h 4 x0 0 (.int (0 : Int32))).bind fun h1 =>
  (vcall h1 4 x0 (f_X4_goesIn h1 x0 (0 : Int32))).bind fun p2 =>
  some (p2.1, p2.2)
def f_X4_allOffIn (h : MH) (x0 : Nat) : Option (Int32 × MH) :=
  (hP h 4 x0 0 (.int (0 : Int32))).bind fun h1 =>
  (vcall h1 4 x0 (f_X4_goesIn h1 x0 (1 : Int32))).bind fun p2 =>
  some (p2.1, p2.2)
def b_X4_shortAnswer_64 (h : MH) (x0 : Nat) (s0 : Int32) : Option (Int32 × MH) :=
  (vcall h 4 x0 (f_X4_takeBack h x0)).bind fun h1 =>
  some (s0, h1)
def b_X4_shortAnswer_61 (h : MH) (x0 : Nat) (s0 : Nat) (s1 : Int32) (s2 : Int32) : Option (Int32 × MH) :=
  (vcall h 4 s0 (f_X4_maskOf h s0 s1 s2)).bind fun v2 =>
  b_X4_shortAnswer_64 h x0 v2
def b_X4_shortAnswer_20 (rec20 : MH → Nat → Int32 → Int32 → Option (Int32 × MH)) (h : MH) (x0 : Nat) (x3 : Int32) (x4 : Int32) : Option (Int32 × MH) :=
  if (100 : Int32) ≤ x4 then
    (if x3 = 0 then
      ((hI h 4 x0 7).bind fun v3 =>
      b_X4_shortAnswer_64 h x0 v3)
    else
      (if x3 = (1 : Int32) then
        (b_X4_shortAnswer_61 h x0 x0 (9 : Int32) (3 : Int32))
      else
        (b_X4_shortAnswer_61 h x0 x0 (9 : Int32) (5 : Int32))))
  else
    ((vcall h 4 x0 (f_X4_pass h x0)).bind fun h4 =>
    rec20 h4 x0 x3 (x4 + (1 : Int32)))
def f_X4_shortAnswer_20 : Nat → MH → Nat → Int32 → Int32 → Option (Int32 × MH)
  | 0 => fun _ _ _ _ => none
  | n + 1 => fun h x0 x3 x4 => b_X4_shortAnswer_20 (f_X4_shortAnswer_20 n) h x0 x3 x4
def f_X4_shortAnswer (h : MH) (x0 : Nat) (x1 : Int32) (x2 : Int32) (x3 : Int32) : Option (Int32 × MH) :=
  (vcall h 4 x0 (f_X4_keepAside h x0)).bind fun h5 =>
  (vcall h5 4 x0 (f_X4_lay h5 x0 x1 (12 : Int32) x2)).bind fun h6 =>
  (hP h6 4 x0 7 (.int (0 : Int32))).bind fun h7 =>
  f_X4_shortAnswer_20 FU h7 x0 x3 (0 : Int32)
def b_X4_ifShort_59 (h : MH) (s0 : Int32) : Option (Int32 × MH) :=
  some (s0, h)
def b_X4_ifShort_38 (h : MH) (x0 : Nat) (x1 : Int32) (x2 : Int32) (x3 : Int32) (s0 : Nat) (s1 : Int32) : Option (Int32 × MH) :=
  (hP h 4 s0 0 (.int s1)).bind fun h1 =>
  (hI h1 4 x0 0).bind fun v2 =>
  if v2 ≤ 0 then
    ((vcall h1 4 x0 (f_X4_shortAnswer h1 x0 x1 x2 x3)).bind fun p3 =>
    b_X4_ifShort_59 p3.2 p3.1)
  else
    (b_X4_ifShort_59 h1 (0 : Int32))
def b_X4_ifShort_37 (h : MH) (x0 : Nat) (x1 : Int32) (x2 : Int32) (x3 : Int32) (s0 : Nat) : Option (Int32 × MH) :=
  b_X4_ifShort_38 h x0 x1 x2 x3 s0 (2 : Int32)
def f_X4_ifShort (h : MH) (x0 : Nat) (x1 : Int32) (x2 : Int32) (x3 : Int32) : Option (Int32 × MH) :=
  (vcall h 4 x0 (f_X4_isRail h x0 x1)).bind fun v4 =>
  if v4 = 0 then
    (b_X4_ifShort_38 h x0 x1 x2 x3 x0 (1 : Int32))
  else
    ((f_X4_within h x2 (1 : Int32) (500 : Int32)).bind fun v5 =>
    if v5 = 0 then
      (b_X4_ifShort_37 h x0 x1 x2 x3 x0)
    else
      ((f_X4_within h x3 (0 : Int32) (2 : Int32)).bind fun v6 =>
      if v6 = 0 then
        (b_X4_ifShort_37 h x0 x1 x2 x3 x0)
      else
        (b_X4_ifShort_38 h x0 x1 x2 x3 x0 (0 : Int32))))
def b_X4_patienceFor_4 (h : MH) (rec4 : Nat → Int32 → Int32 → Int32 → Option Int32) (x0 : Nat) (x1 : Int32) (x2 : Int32) (x3 : Int32) : Option Int32 :=
  if (200 : Int32) < x3 then
    (some (-1 : Int32))
  else
    ((vcall h 4 x0 (f_X4_of h x0 x1 (0 : Int32))).bind fun v1 =>
    (vcall h 4 x0 (f_X4_of h x0 x1 (1 : Int32))).bind fun v2 =>
    (f_X4_towards h x2 v1 v2).bind fun v3 =>
    (vcall h 4 x0 (f_X4_of h x0 x1 (0 : Int32))).bind fun v4 =>
    (vcall h 4 x0 (f_X4_of h x0 x1 (3 : Int32))).bind fun v5 =>
    if (v3 * (100 : Int32)) < (v4 * v5) then
      (rec4 x0 x1 v3 (x3 + (1 : Int32)))
    else
      (some x3))
def f_X4_patienceFor_4 (h : MH) : Nat → Nat → Int32 → Int32 → Int32 → Option Int32
  | 0 => fun _ _ _ _ => none
  | n + 1 => fun x0 x1 x2 x3 => b_X4_patienceFor_4 h (f_X4_patienceFor_4 h n) x0 x1 x2 x3
def f_X4_patienceFor (h : MH) (x0 : Nat) (x1 : Int32) : Option Int32 :=
  f_X4_patienceFor_4 h FU x0 x1 (0 : Int32) (1 : Int32)
def b_X4_leastPatience_33 (h : MH) (s0 : Int32) : Option (Int32 × MH) :=
  some (s0, h)
def b_X4_leastPatience_14 (h : MH) (x0 : Nat) (x1 : Int32) (s0 : Nat) (s1 : Int32) : Option (Int32 × MH) :=
  (hP h 4 s0 0 (.int s1)).bind fun h1 =>
  (hI h1 4 x0 0).bind fun v2 =>
  if v2 ≤ 0 then
    ((vcall h1 4 x0 (f_X4_patienceFor h1 x0 x1)).bind fun v3 =>
    b_X4_leastPatience_33 h1 v3)
  else
    (b_X4_leastPatience_33 h1 (0 : Int32))
def f_X4_leastPatience (h : MH) (x0 : Nat) (x1 : Int32) : Option (Int32 × MH) :=
  (vcall h 4 x0 (f_X4_isRail h x0 x1)).bind fun v4 =>
  if v4 = 0 then
    (b_X4_leastPatience_14 h x0 x1 x0 (1 : Int32))
  else
    (b_X4_leastPatience_14 h x0 x1 x0 (0 : Int32))
def b_X4_shareNow_59 (h : MH) (s0 : UInt64) : Option UInt64 :=
  some s0
def b_X4_shareNow_4 (h : MH) (rec4 : Nat → Int32 → Int32 → Option UInt64) (x0 : Nat) (x1 : Int32) (x2 : Int32) : Option UInt64 :=
  (hR h 4 x0 1).bind fun v1 =>
  (aI h v1 (0 : Int32)).bind fun v2 =>
  if v2 ≤ x2 then
    ((hR h 4 x0 1).bind fun v3 =>
    (aI h v3 (2 : Int32)).bind fun v4 =>
    (hR h 4 x0 1).bind fun v5 =>
    (aI h v5 (0 : Int32)).bind fun v6 =>
    (some (v4 * v6)).bind fun v7 =>
    if v7 = 0 then
      (b_X4_shareNow_59 h (0 : UInt64))
    else
      ((fdmul (4607182418800017408 : UInt64) (FP.i2d x1)).bind fun v8 =>
      (fddiv v8 (FP.i2d v7)).bind fun v9 =>
      b_X4_shareNow_59 h v9))
  else
    ((vcall h 4 x0 (f_X4_of h x0 x2 (19 : Int32))).bind fun v10 =>
    (some (x1 + v10)).bind fun v11 =>
    rec4 x0 v11 (x2 + (1 : Int32)))
def f_X4_shareNow_4 (h : MH) : Nat → Nat → Int32 → Int32 → Option UInt64
  | 0 => fun _ _ _ => none
  | n + 1 => fun x0 x1 x2 => b_X4_shareNow_4 h (f_X4_shareNow_4 h n) x0 x1 x2
def f_X4_shareNow (h : MH) (x0 : Nat) : Option UInt64 :=
  f_X4_shareNow_4 h FU x0 (0 : Int32) (0 : Int32)
def f_X4_goodShare (h : MH) (x0 : Nat) : Option (UInt64 × MH) :=
  (hP h 4 x0 0 (.int (0 : Int32))).bind fun h1 =>
  (vcall h1 4 x0 (f_X4_shareNow h1 x0)).bind fun v2 =>
  some (v2, h1)
def f_X4_mix (h : MH) (x0 : Nat) (x1 : Int64) : Option MH :=
  (hL h 4 x0 15).bind fun v1 =>
  (hP h 4 x0 15 (.long (((31 : Int64) * v1) + x1))).bind fun h2 =>
  some h2
def b_X4_mixRail_27 (rec27 : MH → Nat → Int32 → Int32 → Option MH) (h : MH) (x0 : Nat) (x1 : Int32) (x2 : Int32) : Option MH :=
  if (4 : Int32) ≤ x2 then
    ((vcall h 4 x0 (f_X4_patienceFor h x0 x1)).bind fun v1 =>
    (vcall h 4 x0 (f_X4_mix h x0 (Int32.toInt64 v1))).bind fun h2 =>
    some h2)
  else
    ((vcall h 4 x0 (f_X4_of h x0 x1 ((16 : Int32) + x2))).bind fun v3 =>
    (vcall h 4 x0 (f_X4_mix h x0 (Int32.toInt64 v3))).bind fun h4 =>
    rec27 h4 x0 x1 (x2 + (1 : Int32)))
def f_X4_mixRail_27 : Nat → MH → Nat → Int32 → Int32 → Option MH
  | 0 => fun _ _ _ _ => none
  | n + 1 => fun h x0 x1 x2 => b_X4_mixRail_27 (f_X4_mixRail_27 n) h x0 x1 x2
def b_X4_mixRail_2 (rec2 : MH → Nat → Int32 → Int32 → Option MH) (h : MH) (x0 : Nat) (x1 : Int32) (x2 : Int32) : Option MH :=
  if (19 : Int32) ≤ x2 then
    (f_X4_mixRail_27 FU h x0 x1 (0 : Int32))
  else
    ((vcall h 4 x0 (f_X4_railNow h x0 x1 x2)).bind fun v5 =>
    (vcall h 4 x0 (f_X4_mix h x0 (Int32.toInt64 v5))).bind fun h6 =>
    rec2 h6 x0 x1 (x2 + (1 : Int32)))
def f_X4_mixRail_2 : Nat → MH → Nat → Int32 → Int32 → Option MH
  | 0 => fun _ _ _ _ => none
  | n + 1 => fun h x0 x1 x2 => b_X4_mixRail_2 (f_X4_mixRail_2 n) h x0 x1 x2
def f_X4_mixRail (h : MH) (x0 : Nat) (x1 : Int32) : Option MH :=
  f_X4_mixRail_2 FU h x0 x1 (0 : Int32)
def b_Jxe99ae_isNaN_b9ae7_11 (h : MH) (s0 : Int32) : Option Int32 :=
  some (s0 &&& 1)
def f_Jxe99ae_isNaN_b9ae7 (h : MH) (x0 : UInt64) : Option Int32 :=
  if (Op.cmpValue (FP.dcmp x0 x0) .l) = 0 then
    (b_Jxe99ae_isNaN_b9ae7_11 h (0 : Int32))
  else
    (b_Jxe99ae_isNaN_b9ae7_11 h (1 : Int32))
def f_Jxe99ae_doubleToLongBits_ccdee (h : MH) (x0 : UInt64) : Option Int64 :=
  (f_Jxe99ae_isNaN_b9ae7 h x0).bind fun v1 =>
  if v1 = 0 then
    (some (UInt64.toInt64 x0))
  else
    (some (9221120237041090560 : Int64))
def b_X4_digest_136 (rec136 : MH → Nat → Int32 → Option (Int64 × MH)) (h : MH) (x0 : Nat) (x1 : Int32) : Option (Int64 × MH) :=
  (hI h 4 x0 4).bind fun v1 =>
  if v1 ≤ x1 then
    ((hL h 4 x0 15).bind fun v2 =>
    some (v2, h))
  else
    ((hR h 4 x0 5).bind fun v3 =>
    (aI h v3 x1).bind fun v4 =>
    (vcall h 4 x0 (f_X4_mix h x0 (Int32.toInt64 v4))).bind fun h5 =>
    rec136 h5 x0 (x1 + (1 : Int32)))
def f_X4_digest_136 : Nat → MH → Nat → Int32 → Option (Int64 × MH)
  | 0 => fun _ _ _ => none
  | n + 1 => fun h x0 x1 => b_X4_digest_136 (f_X4_digest_136 n) h x0 x1
def b_X4_digest_61 (rec61 : MH → Nat → Int32 → Option (Int64 × MH)) (h : MH) (x0 : Nat) (x1 : Int32) : Option (Int64 × MH) :=
  (hR h 4 x0 1).bind fun v6 =>
  (aI h v6 (3 : Int32)).bind fun v7 =>
  if ((4 : Int32) * v7) ≤ x1 then
    ((vcall h 4 x0 (f_X4_goesIn h x0 (0 : Int32))).bind fun p8 =>
    (vcall p8.2 4 x0 (f_X4_mix p8.2 x0 (Int32.toInt64 p8.1))).bind fun h9 =>
    (vcall h9 4 x0 (f_X4_goesIn h9 x0 (1 : Int32))).bind fun p10 =>
    (vcall p10.2 4 x0 (f_X4_mix p10.2 x0 (Int32.toInt64 p10.1))).bind fun h11 =>
    (vcall h11 4 x0 (f_X4_shareNow h11 x0)).bind fun v12 =>
    (f_Jxe99ae_doubleToLongBits_ccdee h11 v12).bind fun v13 =>
    (vcall h11 4 x0 (f_X4_mix h11 x0 v13)).bind fun h14 =>
    (hI h14 4 x0 4).bind fun v15 =>
    (vcall h14 4 x0 (f_X4_mix h14 x0 (Int32.toInt64 v15))).bind fun h16 =>
    f_X4_digest_136 FU h16 x0 (0 : Int32))
  else
    ((fidiv x1 (4 : Int32)).bind fun v17 =>
    (firem x1 (4 : Int32)).bind fun v18 =>
    (vcall h 4 x0 (f_X4_entryNow h x0 v17 v18)).bind fun v19 =>
    (vcall h 4 x0 (f_X4_mix h x0 (Int32.toInt64 v19))).bind fun h20 =>
    rec61 h20 x0 (x1 + (1 : Int32)))
def f_X4_digest_61 : Nat → MH → Nat → Int32 → Option (Int64 × MH)
  | 0 => fun _ _ _ => none
  | n + 1 => fun h x0 x1 => b_X4_digest_61 (f_X4_digest_61 n) h x0 x1
def b_X4_digest_38 (rec38 : MH → Nat → Int32 → Option (Int64 × MH)) (h : MH) (x0 : Nat) (x1 : Int32) : Option (Int64 × MH) :=
  (hR h 4 x0 1).bind fun v21 =>
  (aI h v21 (0 : Int32)).bind fun v22 =>
  if v22 ≤ x1 then
    (f_X4_digest_61 FU h x0 (0 : Int32))
  else
    ((vcall h 4 x0 (f_X4_mixRail h x0 x1)).bind fun h23 =>
    rec38 h23 x0 (x1 + (1 : Int32)))
def f_X4_digest_38 : Nat → MH → Nat → Int32 → Option (Int64 × MH)
  | 0 => fun _ _ _ => none
  | n + 1 => fun h x0 x1 => b_X4_digest_38 (f_X4_digest_38 n) h x0 x1
def b_X4_digest_14 (rec14 : MH → Nat → Int32 → Option (Int64 × MH)) (h : MH) (x0 : Nat) (x1 : Int32) : Option (Int64 × MH) :=
  if (10 : Int32) ≤ x1 then
    (f_X4_digest_38 FU h x0 (0 : Int32))
  else
    ((vcall h 4 x0 (f_X4_counted h x0 x1)).bind fun p24 =>
    (vcall p24.2 4 x0 (f_X4_mix p24.2 x0 (Int32.toInt64 p24.1))).bind fun h25 =>
    rec14 h25 x0 (x1 + (1 : Int32)))
def f_X4_digest_14 : Nat → MH → Nat → Int32 → Option (Int64 × MH)
  | 0 => fun _ _ _ => none
  | n + 1 => fun h x0 x1 => b_X4_digest_14 (f_X4_digest_14 n) h x0 x1
def f_X4_digest (h : MH) (x0 : Nat) : Option (Int64 × MH) :=
  (hP h 4 x0 0 (.int (0 : Int32))).bind fun h26 =>
  (hP h26 4 x0 15 (.long (2179 : Int64))).bind fun h27 =>
  f_X4_digest_14 FU h27 x0 (0 : Int32)
def f_L_addRail (h : MH) (x0 : Nat) (x1 : Int32) (x2 : Int32) (x3 : Int32) (x4 : Int32) (x5 : Nat) : Option (Int32 × MH) :=
  (vcall h 3 x0 (f_X3_addRail h x0 x1 x2 x3 x4)).bind (Sum.elim (fun q =>
  if q.1 = 0 then (some ((1 : Int32), q.2)) else if q.1 = 1 then (some ((2 : Int32), q.2)) else none) (fun q =>
  (sL q.2 x5 (0 : Int32) (Int32.toInt64 q.1)).bind fun h2 =>
  some ((0 : Int32), h2)))
def f_L_set (h : MH) (x0 : Nat) (x1 : Int32) (x2 : Int32) (x3 : Int32) (x4 : Nat) : Option (Int32 × MH) :=
  (vcall h 3 x0 (f_X3_set h x0 x1 x2 x3)).bind (Sum.elim (fun q =>
  if q.1 = 2 then (some ((1 : Int32), q.2)) else if q.1 = 0 then (some ((2 : Int32), q.2)) else none) (fun q =>
  (sL q.2 x4 (0 : Int32) (Int32.toInt64 q.1)).bind fun h2 =>
  some ((0 : Int32), h2)))
def f_L_setNeeds (h : MH) (x0 : Nat) (x1 : Int32) (x2 : Int32) (x3 : Nat) : Option (Int32 × MH) :=
  (vcall h 3 x0 (f_X3_setNeeds h x0 x1 x2)).bind (Sum.elim (fun q =>
  if q.1 = 2 then (some ((1 : Int32), q.2)) else if q.1 = 0 then (some ((2 : Int32), q.2)) else if q.1 = 1 then (some ((3 : Int32), q.2)) else none) (fun q =>
  (sL q.2 x3 (0 : Int32) (Int32.toInt64 q.1)).bind fun h2 =>
  some ((0 : Int32), h2)))
def f_L_setResidue (h : MH) (x0 : Nat) (x1 : Int32) (x2 : Nat) : Option (Int32 × MH) :=
  (vcall h 3 x0 (f_X3_setResidue h x0 x1)).bind (Sum.elim (fun q =>
  if q.1 = 0 then (some ((1 : Int32), q.2)) else none) (fun q =>
  (sL q.2 x2 (0 : Int32) (Int32.toInt64 q.1)).bind fun h2 =>
  some ((0 : Int32), h2)))
def f_L_on (h : MH) (x0 : Nat) (x1 : Int32) (x2 : Nat) : Option (Int32 × MH) :=
  (vcall h 3 x0 (f_X3_on h x0 x1)).bind (Sum.elim (fun q =>
  if q.1 = 0 then (some ((1 : Int32), q.2)) else none) (fun q =>
  (sL q.2 x2 (0 : Int32) (Int32.toInt64 q.1)).bind fun h2 =>
  some ((0 : Int32), h2)))
def f_L_off (h : MH) (x0 : Nat) (x1 : Int32) (x2 : Nat) : Option (Int32 × MH) :=
  (vcall h 3 x0 (f_X3_off h x0 x1)).bind (Sum.elim (fun q =>
  if q.1 = 0 then (some ((1 : Int32), q.2)) else none) (fun q =>
  (sL q.2 x2 (0 : Int32) (Int32.toInt64 q.1)).bind fun h2 =>
  some ((0 : Int32), h2)))
def f_L_restart (h : MH) (x0 : Nat) (x1 : Int32) (x2 : Nat) : Option (Int32 × MH) :=
  (vcall h 3 x0 (f_X3_restart h x0 x1)).bind (Sum.elim (fun q =>
  if q.1 = 2 then (some ((1 : Int32), q.2)) else if q.1 = 1 then (some ((2 : Int32), q.2)) else none) (fun q =>
  (sL q.2 x2 (0 : Int32) (Int32.toInt64 q.1)).bind fun h2 =>
  some ((0 : Int32), h2)))
def f_L_shortCircuit (h : MH) (x0 : Nat) (x1 : Int32) (x2 : Int32) (x3 : Nat) : Option (Int32 × MH) :=
  (vcall h 3 x0 (f_X3_shortCircuit h x0 x1 x2)).bind (Sum.elim (fun q =>
  if q.1 = 2 then (some ((1 : Int32), q.2)) else if q.1 = 0 then (some ((2 : Int32), q.2)) else none) (fun q =>
  (sL q.2 x3 (0 : Int32) (Int32.toInt64 q.1)).bind fun h2 =>
  some ((0 : Int32), h2)))
def f_L_stick (h : MH) (x0 : Nat) (x1 : Int32) (x2 : Int32) (x3 : Nat) : Option (Int32 × MH) :=
  (vcall h 3 x0 (f_X3_stick h x0 x1 x2)).bind (Sum.elim (fun q =>
  if q.1 = 2 then (some ((1 : Int32), q.2)) else if q.1 = 0 then (some ((2 : Int32), q.2)) else none) (fun q =>
  (sL q.2 x3 (0 : Int32) (Int32.toInt64 q.1)).bind fun h2 =>
  some ((0 : Int32), h2)))
def f_L_tick (h : MH) (x0 : Nat) (x1 : Int32) (x2 : Nat) : Option (Int32 × MH) :=
  (vcall h 3 x0 (f_X3_tick h x0 x1)).bind (Sum.elim (fun q =>
  if q.1 = 0 then (some ((1 : Int32), q.2)) else if q.1 = 1 then (some ((2 : Int32), q.2)) else none) (fun q =>
  (sL q.2 x2 (0 : Int32) (Int32.toInt64 q.1)).bind fun h2 =>
  some ((0 : Int32), h2)))
def f_L_append (h : MH) (x0 : Nat) (x1 : Int32) (x2 : Nat) : Option (Int32 × MH) :=
  (vcall h 3 x0 (f_X3_append h x0 x1)).bind (Sum.elim (fun q =>
  if q.1 = 0 then (some ((1 : Int32), q.2)) else if q.1 = 1 then (some ((2 : Int32), q.2)) else none) (fun q =>
  (sL q.2 x2 (0 : Int32) (Int32.toInt64 q.1)).bind fun h2 =>
  some ((0 : Int32), h2)))
def f_L_load (h : MH) (x0 : Nat) (x1 : Nat) : Option (Int32 × MH) :=
  (vcall h 3 x0 (f_X3_load h x0)).bind (Sum.elim (fun q =>
  if q.1 = 0 then (some ((1 : Int32), q.2)) else if q.1 = 1 then (some ((2 : Int32), q.2)) else none) (fun q =>
  (sL q.2 x1 (0 : Int32) (Int32.toInt64 q.1)).bind fun h2 =>
  some ((0 : Int32), h2)))
def f_L_undo (h : MH) (x0 : Nat) (x1 : Nat) : Option (Int32 × MH) :=
  (vcall h 3 x0 (f_X3_undo h x0)).bind (Sum.elim (fun q =>
  if q.1 = 1 then (some ((1 : Int32), q.2)) else none) (fun q =>
  (sL q.2 x1 (0 : Int32) (Int32.toInt64 q.1)).bind fun h2 =>
  some ((0 : Int32), h2)))
def f_L_rail (h : MH) (x0 : Nat) (x1 : Int32) (x2 : Int32) (x3 : Nat) : Option (Int32 × MH) :=
  (vcall h 3 x0 (f_X3_rail h x0 x1 x2)).bind (Sum.elim (fun q =>
  if q.1 = 2 then (some ((1 : Int32), q.2)) else if q.1 = 0 then (some ((2 : Int32), q.2)) else none) (fun q =>
  (sL q.2 x3 (0 : Int32) (Int32.toInt64 q.1)).bind fun h2 =>
  some ((0 : Int32), h2)))
def f_L_account (h : MH) (x0 : Nat) (x1 : Int32) (x2 : Int32) (x3 : Nat) : Option (Int32 × MH) :=
  (vcall h 3 x0 (f_X3_account h x0 x1 x2)).bind (Sum.elim (fun q =>
  if q.1 = 2 then (some ((1 : Int32), q.2)) else if q.1 = 0 then (some ((2 : Int32), q.2)) else none) (fun q =>
  (sL q.2 x3 (0 : Int32) (Int32.toInt64 q.1)).bind fun h2 =>
  some ((0 : Int32), h2)))
def f_L_entry (h : MH) (x0 : Nat) (x1 : Int32) (x2 : Int32) (x3 : Nat) : Option (Int32 × MH) :=
  (vcall h 3 x0 (f_X3_entry h x0 x1 x2)).bind (Sum.elim (fun q =>
  if q.1 = 0 then (some ((1 : Int32), q.2)) else none) (fun q =>
  (sL q.2 x3 (0 : Int32) (Int32.toInt64 q.1)).bind fun h2 =>
  some ((0 : Int32), h2)))
def f_L_forget (h : MH) (x0 : Nat) (x1 : Int32) (x2 : Nat) : Option (Int32 × MH) :=
  (vcall h 3 x0 (f_X3_forget h x0 x1)).bind (Sum.elim (fun q =>
  if q.1 = 2 then (some ((1 : Int32), q.2)) else none) (fun q =>
  (sL q.2 x2 (0 : Int32) (Int32.toInt64 q.1)).bind fun h2 =>
  some ((0 : Int32), h2)))
def f_L_count (h : MH) (x0 : Nat) (x1 : Int32) (x2 : Nat) : Option (Int32 × MH) :=
  (vcall h 3 x0 (f_X3_count h x0 x1)).bind (Sum.elim (fun q =>
  if q.1 = 0 then (some ((1 : Int32), q.2)) else none) (fun q =>
  (sL q.2 x2 (0 : Int32) (Int32.toInt64 q.1)).bind fun h2 =>
  some ((0 : Int32), h2)))
def f_L_ifShort (h : MH) (x0 : Nat) (x1 : Int32) (x2 : Int32) (x3 : Int32) (x4 : Nat) : Option (Int32 × MH) :=
  (vcall h 3 x0 (f_X3_ifShort h x0 x1 x2 x3)).bind (Sum.elim (fun q =>
  if q.1 = 2 then (some ((1 : Int32), q.2)) else if q.1 = 0 then (some ((2 : Int32), q.2)) else none) (fun q =>
  (sL q.2 x4 (0 : Int32) (Int32.toInt64 q.1)).bind fun h2 =>
  some ((0 : Int32), h2)))
def f_L_leastPatience (h : MH) (x0 : Nat) (x1 : Int32) (x2 : Nat) : Option (Int32 × MH) :=
  (vcall h 3 x0 (f_X3_leastPatience h x0 x1)).bind (Sum.elim (fun q =>
  if q.1 = 2 then (some ((1 : Int32), q.2)) else none) (fun q =>
  (sL q.2 x2 (0 : Int32) (Int32.toInt64 q.1)).bind fun h2 =>
  some ((0 : Int32), h2)))
def b_L_law_1515 (sc : Nat × (Nat → Int32)) (rec23 : MH → Nat → Nat → Nat → Int32 → Option Int32) (h : MH) (x1 : Nat) (x2 : Nat) (x3 : Nat) (x4 : Int32) : Option Int32 :=
  rec23 h x1 x2 x3 (x4 + (5 : Int32))
def b_L_law_1401 (sc : Nat × (Nat → Int32)) (rec23 : MH → Nat → Nat → Nat → Int32 → Option Int32) (h : MH) (x1 : Nat) (x2 : Nat) (x3 : Nat) (x4 : Int32) : Option Int32 :=
  b_L_law_1515 sc rec23 h x1 x2 x3 x4
def b_L_law_393 (sc : Nat × (Nat → Int32)) (rec23 : MH → Nat → Nat → Nat → Int32 → Option Int32) (h : MH) (x1 : Nat) (x2 : Nat) (x3 : Nat) (x4 : Int32) : Option Int32 :=
  b_L_law_1515 sc rec23 h x1 x2 x3 x4
def b_L_law_1295 (sc : Nat × (Nat → Int32)) (rec23 : MH → Nat → Nat → Nat → Int32 → Option Int32) (h : MH) (x1 : Nat) (x2 : Nat) (x3 : Nat) (x4 : Int32) : Option Int32 :=
  b_L_law_1515 sc rec23 h x1 x2 x3 x4
def b_L_law_1047 (sc : Nat × (Nat → Int32)) (rec23 : MH → Nat → Nat → Nat → Int32 → Option Int32) (h : MH) (x1 : Nat) (x2 : Nat) (x3 : Nat) (x4 : Int32) : Option Int32 :=
  b_L_law_1515 sc rec23 h x1 x2 x3 x4
def b_L_law_1183 (sc : Nat × (Nat → Int32)) (rec23 : MH → Nat → Nat → Nat → Int32 → Option Int32) (h : MH) (x1 : Nat) (x2 : Nat) (x3 : Nat) (x4 : Int32) : Option Int32 :=
  b_L_law_1515 sc rec23 h x1 x2 x3 x4
def b_L_law_935 (sc : Nat × (Nat → Int32)) (rec23 : MH → Nat → Nat → Nat → Int32 → Option Int32) (h : MH) (x1 : Nat) (x2 : Nat) (x3 : Nat) (x4 : Int32) : Option Int32 :=
  b_L_law_1515 sc rec23 h x1 x2 x3 x4
def b_L_law_809 (sc : Nat × (Nat → Int32)) (rec23 : MH → Nat → Nat → Nat → Int32 → Option Int32) (h : MH) (x1 : Nat) (x2 : Nat) (x3 : Nat) (x4 : Int32) : Option Int32 :=
  b_L_law_1515 sc rec23 h x1 x2 x3 x4
def b_L_law_685 (sc : Nat × (Nat → Int32)) (rec23 : MH → Nat → Nat → Nat → Int32 → Option Int32) (h : MH) (x1 : Nat) (x2 : Nat) (x3 : Nat) (x4 : Int32) : Option Int32 :=
  b_L_law_1515 sc rec23 h x1 x2 x3 x4
def b_L_law_1457 (sc : Nat × (Nat → Int32)) (rec23 : MH → Nat → Nat → Nat → Int32 → Option Int32) (h : MH) (x1 : Nat) (x2 : Nat) (x3 : Nat) (x4 : Int32) : Option Int32 :=
  b_L_law_1515 sc rec23 h x1 x2 x3 x4
def b_L_law_561 (sc : Nat × (Nat → Int32)) (rec23 : MH → Nat → Nat → Nat → Int32 → Option Int32) (h : MH) (x1 : Nat) (x2 : Nat) (x3 : Nat) (x4 : Int32) : Option Int32 :=
  b_L_law_1515 sc rec23 h x1 x2 x3 x4
def b_L_law_449 (sc : Nat × (Nat → Int32)) (rec23 : MH → Nat → Nat → Nat → Int32 → Option Int32) (h : MH) (x1 : Nat) (x2 : Nat) (x3 : Nat) (x4 : Int32) : Option Int32 :=
  b_L_law_1515 sc rec23 h x1 x2 x3 x4
def b_L_law_325 (sc : Nat × (Nat → Int32)) (rec23 : MH → Nat → Nat → Nat → Int32 → Option Int32) (h : MH) (x1 : Nat) (x2 : Nat) (x3 : Nat) (x4 : Int32) : Option Int32 :=
  b_L_law_1515 sc rec23 h x1 x2 x3 x4
def b_L_law_979 (sc : Nat × (Nat → Int32)) (rec23 : MH → Nat → Nat → Nat → Int32 → Option Int32) (h : MH) (x1 : Nat) (x2 : Nat) (x3 : Nat) (x4 : Int32) : Option Int32 :=
  b_L_law_1515 sc rec23 h x1 x2 x3 x4
def b_L_law_1239 (sc : Nat × (Nat → Int32)) (rec23 : MH → Nat → Nat → Nat → Int32 → Option Int32) (h : MH) (x1 : Nat) (x2 : Nat) (x3 : Nat) (x4 : Int32) : Option Int32 :=
  b_L_law_1515 sc rec23 h x1 x2 x3 x4
def b_L_law_1496 (sc : Nat × (Nat → Int32)) (h : MH) : Option Int32 :=
  some (0 : Int32)
def b_L_law_1498 (sc : Nat × (Nat → Int32)) (rec23 : MH → Nat → Nat → Nat → Int32 → Option Int32) (h : MH) (x1 : Nat) (x2 : Nat) (x3 : Nat) (x4 : Int32) : Option Int32 :=
  b_L_law_1515 sc rec23 h x1 x2 x3 x4
def b_L_law_1115 (sc : Nat × (Nat → Int32)) (rec23 : MH → Nat → Nat → Nat → Int32 → Option Int32) (h : MH) (x1 : Nat) (x2 : Nat) (x3 : Nat) (x4 : Int32) : Option Int32 :=
  b_L_law_1515 sc rec23 h x1 x2 x3 x4
def b_L_law_865 (sc : Nat × (Nat → Int32)) (rec23 : MH → Nat → Nat → Nat → Int32 → Option Int32) (h : MH) (x1 : Nat) (x2 : Nat) (x3 : Nat) (x4 : Int32) : Option Int32 :=
  b_L_law_1515 sc rec23 h x1 x2 x3 x4
def b_L_law_617 (sc : Nat × (Nat → Int32)) (rec23 : MH → Nat → Nat → Nat → Int32 → Option Int32) (h : MH) (x1 : Nat) (x2 : Nat) (x3 : Nat) (x4 : Int32) : Option Int32 :=
  b_L_law_1515 sc rec23 h x1 x2 x3 x4
def b_L_law_753 (sc : Nat × (Nat → Int32)) (rec23 : MH → Nat → Nat → Nat → Int32 → Option Int32) (h : MH) (x1 : Nat) (x2 : Nat) (x3 : Nat) (x4 : Int32) : Option Int32 :=
  b_L_law_1515 sc rec23 h x1 x2 x3 x4
def b_L_law_245 (sc : Nat × (Nat → Int32)) (rec23 : MH → Nat → Nat → Nat → Int32 → Option Int32) (h : MH) (x1 : Nat) (x2 : Nat) (x3 : Nat) (x4 : Int32) : Option Int32 :=
  b_L_law_1515 sc rec23 h x1 x2 x3 x4
def b_L_law_505 (sc : Nat × (Nat → Int32)) (rec23 : MH → Nat → Nat → Nat → Int32 → Option Int32) (h : MH) (x1 : Nat) (x2 : Nat) (x3 : Nat) (x4 : Int32) : Option Int32 :=
  b_L_law_1515 sc rec23 h x1 x2 x3 x4
def b_L_law_23 (sc : Nat × (Nat → Int32)) (rec23 : MH → Nat → Nat → Nat → Int32 → Option Int32) (h : MH) (x1 : Nat) (x2 : Nat) (x3 : Nat) (x4 : Int32) : Option Int32 :=
  if ((Int32.ofNat sc.1) - (5 : Int32)) < x4 then
    (some (1 : Int32))
  else
    ((rA sc.1 sc.2 x4).bind fun v1 =>
    if (v1 &&& (31 : Int32)) = 0 then
    ((rA sc.1 sc.2 (x4 + (1 : Int32))).bind fun v2 =>
    (rA sc.1 sc.2 (x4 + (2 : Int32))).bind fun v3 =>
    (rA sc.1 sc.2 (x4 + (3 : Int32))).bind fun v4 =>
    (rA sc.1 sc.2 (x4 + (4 : Int32))).bind fun v5 =>
    (f_L_addRail h x1 v2 v3 v4 v5 x3).bind fun p6 =>
    (rA sc.1 sc.2 (x4 + (1 : Int32))).bind fun v7 =>
    (rA sc.1 sc.2 (x4 + (2 : Int32))).bind fun v8 =>
    (rA sc.1 sc.2 (x4 + (3 : Int32))).bind fun v9 =>
    (rA sc.1 sc.2 (x4 + (4 : Int32))).bind fun v10 =>
    (vcall p6.2 4 x2 (f_X4_addRail p6.2 x2 v7 v8 v9 v10)).bind fun p11 =>
    (vcall p11.2 4 x2 (f_X4_thrown p11.2 x2)).bind fun v12 =>
    if v12 = p6.1 then
      (if p6.1 = 0 then
        ((aL p11.2 x3 (0 : Int32)).bind fun v13 =>
        if (lg_cmp v13 (Int32.toInt64 p11.1)) = 0 then
          (b_L_law_245 sc rec23 p11.2 x1 x2 x3 x4)
        else
          (some (0 : Int32)))
      else
        (b_L_law_245 sc rec23 p11.2 x1 x2 x3 x4))
    else
      (some (0 : Int32)))
   else
    if (v1 &&& (31 : Int32)) = 1 then
    ((rA sc.1 sc.2 (x4 + (1 : Int32))).bind fun v14 =>
    (rA sc.1 sc.2 (x4 + (2 : Int32))).bind fun v15 =>
    (rA sc.1 sc.2 (x4 + (3 : Int32))).bind fun v16 =>
    (f_L_set h x1 v14 v15 v16 x3).bind fun p17 =>
    (rA sc.1 sc.2 (x4 + (1 : Int32))).bind fun v18 =>
    (rA sc.1 sc.2 (x4 + (2 : Int32))).bind fun v19 =>
    (rA sc.1 sc.2 (x4 + (3 : Int32))).bind fun v20 =>
    (vcall p17.2 4 x2 (f_X4_set p17.2 x2 v18 v19 v20)).bind fun p21 =>
    (vcall p21.2 4 x2 (f_X4_thrown p21.2 x2)).bind fun v22 =>
    if v22 = p17.1 then
      (if p17.1 = 0 then
        ((aL p21.2 x3 (0 : Int32)).bind fun v23 =>
        if (lg_cmp v23 (Int32.toInt64 p21.1)) = 0 then
          (b_L_law_325 sc rec23 p21.2 x1 x2 x3 x4)
        else
          (some (0 : Int32)))
      else
        (b_L_law_325 sc rec23 p21.2 x1 x2 x3 x4))
    else
      (some (0 : Int32)))
   else
    if (v1 &&& (31 : Int32)) = 2 then
    ((rA sc.1 sc.2 (x4 + (1 : Int32))).bind fun v24 =>
    (rA sc.1 sc.2 (x4 + (2 : Int32))).bind fun v25 =>
    (f_L_setNeeds h x1 v24 v25 x3).bind fun p26 =>
    (rA sc.1 sc.2 (x4 + (1 : Int32))).bind fun v27 =>
    (rA sc.1 sc.2 (x4 + (2 : Int32))).bind fun v28 =>
    (vcall p26.2 4 x2 (f_X4_setNeeds p26.2 x2 v27 v28)).bind fun p29 =>
    (vcall p29.2 4 x2 (f_X4_thrown p29.2 x2)).bind fun v30 =>
    if v30 = p26.1 then
      (if p26.1 = 0 then
        ((aL p29.2 x3 (0 : Int32)).bind fun v31 =>
        if (lg_cmp v31 (Int32.toInt64 p29.1)) = 0 then
          (b_L_law_393 sc rec23 p29.2 x1 x2 x3 x4)
        else
          (some (0 : Int32)))
      else
        (b_L_law_393 sc rec23 p29.2 x1 x2 x3 x4))
    else
      (some (0 : Int32)))
   else
    if (v1 &&& (31 : Int32)) = 3 then
    ((rA sc.1 sc.2 (x4 + (1 : Int32))).bind fun v32 =>
    (f_L_setResidue h x1 v32 x3).bind fun p33 =>
    (rA sc.1 sc.2 (x4 + (1 : Int32))).bind fun v34 =>
    (vcall p33.2 4 x2 (f_X4_setResidue p33.2 x2 v34)).bind fun p35 =>
    (vcall p35.2 4 x2 (f_X4_thrown p35.2 x2)).bind fun v36 =>
    if v36 = p33.1 then
      (if p33.1 = 0 then
        ((aL p35.2 x3 (0 : Int32)).bind fun v37 =>
        if (lg_cmp v37 (Int32.toInt64 p35.1)) = 0 then
          (b_L_law_449 sc rec23 p35.2 x1 x2 x3 x4)
        else
          (some (0 : Int32)))
      else
        (b_L_law_449 sc rec23 p35.2 x1 x2 x3 x4))
    else
      (some (0 : Int32)))
   else
    if (v1 &&& (31 : Int32)) = 4 then
    ((rA sc.1 sc.2 (x4 + (1 : Int32))).bind fun v38 =>
    (f_L_on h x1 v38 x3).bind fun p39 =>
    (rA sc.1 sc.2 (x4 + (1 : Int32))).bind fun v40 =>
    (vcall p39.2 4 x2 (f_X4_on p39.2 x2 v40)).bind fun p41 =>
    (vcall p41.2 4 x2 (f_X4_thrown p41.2 x2)).bind fun v42 =>
    if v42 = p39.1 then
      (if p39.1 = 0 then
        ((aL p41.2 x3 (0 : Int32)).bind fun v43 =>
        if (lg_cmp v43 (Int32.toInt64 p41.1)) = 0 then
          (b_L_law_505 sc rec23 p41.2 x1 x2 x3 x4)
        else
          (some (0 : Int32)))
      else
        (b_L_law_505 sc rec23 p41.2 x1 x2 x3 x4))
    else
      (some (0 : Int32)))
   else
    if (v1 &&& (31 : Int32)) = 5 then
    ((rA sc.1 sc.2 (x4 + (1 : Int32))).bind fun v44 =>
    (f_L_off h x1 v44 x3).bind fun p45 =>
    (rA sc.1 sc.2 (x4 + (1 : Int32))).bind fun v46 =>
    (vcall p45.2 4 x2 (f_X4_off p45.2 x2 v46)).bind fun p47 =>
    (vcall p47.2 4 x2 (f_X4_thrown p47.2 x2)).bind fun v48 =>
    if v48 = p45.1 then
      (if p45.1 = 0 then
        ((aL p47.2 x3 (0 : Int32)).bind fun v49 =>
        if (lg_cmp v49 (Int32.toInt64 p47.1)) = 0 then
          (b_L_law_561 sc rec23 p47.2 x1 x2 x3 x4)
        else
          (some (0 : Int32)))
      else
        (b_L_law_561 sc rec23 p47.2 x1 x2 x3 x4))
    else
      (some (0 : Int32)))
   else
    if (v1 &&& (31 : Int32)) = 6 then
    ((rA sc.1 sc.2 (x4 + (1 : Int32))).bind fun v50 =>
    (f_L_restart h x1 v50 x3).bind fun p51 =>
    (rA sc.1 sc.2 (x4 + (1 : Int32))).bind fun v52 =>
    (vcall p51.2 4 x2 (f_X4_restart p51.2 x2 v52)).bind fun p53 =>
    (vcall p53.2 4 x2 (f_X4_thrown p53.2 x2)).bind fun v54 =>
    if v54 = p51.1 then
      (if p51.1 = 0 then
        ((aL p53.2 x3 (0 : Int32)).bind fun v55 =>
        if (lg_cmp v55 (Int32.toInt64 p53.1)) = 0 then
          (b_L_law_617 sc rec23 p53.2 x1 x2 x3 x4)
        else
          (some (0 : Int32)))
      else
        (b_L_law_617 sc rec23 p53.2 x1 x2 x3 x4))
    else
      (some (0 : Int32)))
   else
    if (v1 &&& (31 : Int32)) = 7 then
    ((rA sc.1 sc.2 (x4 + (1 : Int32))).bind fun v56 =>
    (rA sc.1 sc.2 (x4 + (2 : Int32))).bind fun v57 =>
    (f_L_shortCircuit h x1 v56 v57 x3).bind fun p58 =>
    (rA sc.1 sc.2 (x4 + (1 : Int32))).bind fun v59 =>
    (rA sc.1 sc.2 (x4 + (2 : Int32))).bind fun v60 =>
    (vcall p58.2 4 x2 (f_X4_shortCircuit p58.2 x2 v59 v60)).bind fun p61 =>
    (vcall p61.2 4 x2 (f_X4_thrown p61.2 x2)).bind fun v62 =>
    if v62 = p58.1 then
      (if p58.1 = 0 then
        ((aL p61.2 x3 (0 : Int32)).bind fun v63 =>
        if (lg_cmp v63 (Int32.toInt64 p61.1)) = 0 then
          (b_L_law_685 sc rec23 p61.2 x1 x2 x3 x4)
        else
          (some (0 : Int32)))
      else
        (b_L_law_685 sc rec23 p61.2 x1 x2 x3 x4))
    else
      (some (0 : Int32)))
   else
    if (v1 &&& (31 : Int32)) = 8 then
    ((rA sc.1 sc.2 (x4 + (1 : Int32))).bind fun v64 =>
    (rA sc.1 sc.2 (x4 + (2 : Int32))).bind fun v65 =>
    (f_L_stick h x1 v64 v65 x3).bind fun p66 =>
    (rA sc.1 sc.2 (x4 + (1 : Int32))).bind fun v67 =>
    (rA sc.1 sc.2 (x4 + (2 : Int32))).bind fun v68 =>
    (vcall p66.2 4 x2 (f_X4_stick p66.2 x2 v67 v68)).bind fun p69 =>
    (vcall p69.2 4 x2 (f_X4_thrown p69.2 x2)).bind fun v70 =>
    if v70 = p66.1 then
      (if p66.1 = 0 then
        ((aL p69.2 x3 (0 : Int32)).bind fun v71 =>
        if (lg_cmp v71 (Int32.toInt64 p69.1)) = 0 then
          (b_L_law_753 sc rec23 p69.2 x1 x2 x3 x4)
        else
          (some (0 : Int32)))
      else
        (b_L_law_753 sc rec23 p69.2 x1 x2 x3 x4))
    else
      (some (0 : Int32)))
   else
    if (v1 &&& (31 : Int32)) = 9 then
    ((rA sc.1 sc.2 (x4 + (1 : Int32))).bind fun v72 =>
    (f_L_tick h x1 v72 x3).bind fun p73 =>
    (rA sc.1 sc.2 (x4 + (1 : Int32))).bind fun v74 =>
    (vcall p73.2 4 x2 (f_X4_tick p73.2 x2 v74)).bind fun p75 =>
    (vcall p75.2 4 x2 (f_X4_thrown p75.2 x2)).bind fun v76 =>
    if v76 = p73.1 then
      (if p73.1 = 0 then
        ((aL p75.2 x3 (0 : Int32)).bind fun v77 =>
        if (lg_cmp v77 (Int32.toInt64 p75.1)) = 0 then
          (b_L_law_809 sc rec23 p75.2 x1 x2 x3 x4)
        else
          (some (0 : Int32)))
      else
        (b_L_law_809 sc rec23 p75.2 x1 x2 x3 x4))
    else
      (some (0 : Int32)))
   else
    if (v1 &&& (31 : Int32)) = 10 then
    ((rA sc.1 sc.2 (x4 + (1 : Int32))).bind fun v78 =>
    (f_L_append h x1 v78 x3).bind fun p79 =>
    (rA sc.1 sc.2 (x4 + (1 : Int32))).bind fun v80 =>
    (vcall p79.2 4 x2 (f_X4_append p79.2 x2 v80)).bind fun p81 =>
    (vcall p81.2 4 x2 (f_X4_thrown p81.2 x2)).bind fun v82 =>
    if v82 = p79.1 then
      (if p79.1 = 0 then
        ((aL p81.2 x3 (0 : Int32)).bind fun v83 =>
        if (lg_cmp v83 (Int32.toInt64 p81.1)) = 0 then
          (b_L_law_865 sc rec23 p81.2 x1 x2 x3 x4)
        else
          (some (0 : Int32)))
      else
        (b_L_law_865 sc rec23 p81.2 x1 x2 x3 x4))
    else
      (some (0 : Int32)))
   else
    if (v1 &&& (31 : Int32)) = 11 then
    ((vcall h 3 x1 (f_X3_clearBuffer h x1)).bind fun p84 =>
    (vcall p84.2 4 x2 (f_X4_clearBuffer p84.2 x2)).bind fun p85 =>
    if p84.1 = p85.1 then
      (b_L_law_1515 sc rec23 p85.2 x1 x2 x3 x4)
    else
      (some (0 : Int32)))
   else
    if (v1 &&& (31 : Int32)) = 12 then
    ((vcall h 3 x1 (f_X3_firstError h x1)).bind fun p86 =>
    (vcall p86.2 4 x2 (f_X4_firstError p86.2 x2)).bind fun p87 =>
    if p86.1 = p87.1 then
      (b_L_law_1515 sc rec23 p87.2 x1 x2 x3 x4)
    else
      (some (0 : Int32)))
   else
    if (v1 &&& (31 : Int32)) = 13 then
    ((f_L_load h x1 x3).bind fun p88 =>
    (vcall p88.2 4 x2 (f_X4_load p88.2 x2)).bind fun p89 =>
    (vcall p89.2 4 x2 (f_X4_thrown p89.2 x2)).bind fun v90 =>
    if v90 = p88.1 then
      (if p88.1 = 0 then
        ((aL p89.2 x3 (0 : Int32)).bind fun v91 =>
        if (lg_cmp v91 (Int32.toInt64 p89.1)) = 0 then
          (b_L_law_935 sc rec23 p89.2 x1 x2 x3 x4)
        else
          (some (0 : Int32)))
      else
        (b_L_law_935 sc rec23 p89.2 x1 x2 x3 x4))
    else
      (some (0 : Int32)))
   else
    if (v1 &&& (31 : Int32)) = 14 then
    ((f_L_undo h x1 x3).bind fun p92 =>
    (vcall p92.2 4 x2 (f_X4_undo p92.2 x2)).bind fun p93 =>
    (vcall p93.2 4 x2 (f_X4_thrown p93.2 x2)).bind fun v94 =>
    if v94 = p92.1 then
      (if p92.1 = 0 then
        ((aL p93.2 x3 (0 : Int32)).bind fun v95 =>
        if (lg_cmp v95 (Int32.toInt64 p93.1)) = 0 then
          (b_L_law_979 sc rec23 p93.2 x1 x2 x3 x4)
        else
          (some (0 : Int32)))
      else
        (b_L_law_979 sc rec23 p93.2 x1 x2 x3 x4))
    else
      (some (0 : Int32)))
   else
    if (v1 &&& (31 : Int32)) = 15 then
    ((rA sc.1 sc.2 (x4 + (1 : Int32))).bind fun v96 =>
    (rA sc.1 sc.2 (x4 + (2 : Int32))).bind fun v97 =>
    (f_L_rail h x1 v96 v97 x3).bind fun p98 =>
    (rA sc.1 sc.2 (x4 + (1 : Int32))).bind fun v99 =>
    (rA sc.1 sc.2 (x4 + (2 : Int32))).bind fun v100 =>
    (vcall p98.2 4 x2 (f_X4_rail p98.2 x2 v99 v100)).bind fun p101 =>
    (vcall p101.2 4 x2 (f_X4_thrown p101.2 x2)).bind fun v102 =>
    if v102 = p98.1 then
      (if p98.1 = 0 then
        ((aL p101.2 x3 (0 : Int32)).bind fun v103 =>
        if (lg_cmp v103 (Int32.toInt64 p101.1)) = 0 then
          (b_L_law_1047 sc rec23 p101.2 x1 x2 x3 x4)
        else
          (some (0 : Int32)))
      else
        (b_L_law_1047 sc rec23 p101.2 x1 x2 x3 x4))
    else
      (some (0 : Int32)))
   else
    if (v1 &&& (31 : Int32)) = 16 then
    ((rA sc.1 sc.2 (x4 + (1 : Int32))).bind fun v104 =>
    (rA sc.1 sc.2 (x4 + (2 : Int32))).bind fun v105 =>
    (f_L_account h x1 v104 v105 x3).bind fun p106 =>
    (rA sc.1 sc.2 (x4 + (1 : Int32))).bind fun v107 =>
    (rA sc.1 sc.2 (x4 + (2 : Int32))).bind fun v108 =>
    (vcall p106.2 4 x2 (f_X4_account p106.2 x2 v107 v108)).bind fun p109 =>
    (vcall p109.2 4 x2 (f_X4_thrown p109.2 x2)).bind fun v110 =>
    if v110 = p106.1 then
      (if p106.1 = 0 then
        ((aL p109.2 x3 (0 : Int32)).bind fun v111 =>
        if (lg_cmp v111 (Int32.toInt64 p109.1)) = 0 then
          (b_L_law_1115 sc rec23 p109.2 x1 x2 x3 x4)
        else
          (some (0 : Int32)))
      else
        (b_L_law_1115 sc rec23 p109.2 x1 x2 x3 x4))
    else
      (some (0 : Int32)))
   else
    if (v1 &&& (31 : Int32)) = 17 then
    ((rA sc.1 sc.2 (x4 + (1 : Int32))).bind fun v112 =>
    (rA sc.1 sc.2 (x4 + (2 : Int32))).bind fun v113 =>
    (f_L_entry h x1 v112 v113 x3).bind fun p114 =>
    (rA sc.1 sc.2 (x4 + (1 : Int32))).bind fun v115 =>
    (rA sc.1 sc.2 (x4 + (2 : Int32))).bind fun v116 =>
    (vcall p114.2 4 x2 (f_X4_entry p114.2 x2 v115 v116)).bind fun p117 =>
    (vcall p117.2 4 x2 (f_X4_thrown p117.2 x2)).bind fun v118 =>
    if v118 = p114.1 then
      (if p114.1 = 0 then
        ((aL p117.2 x3 (0 : Int32)).bind fun v119 =>
        if (lg_cmp v119 (Int32.toInt64 p117.1)) = 0 then
          (b_L_law_1183 sc rec23 p117.2 x1 x2 x3 x4)
        else
          (some (0 : Int32)))
      else
        (b_L_law_1183 sc rec23 p117.2 x1 x2 x3 x4))
    else
      (some (0 : Int32)))
   else
    if (v1 &&& (31 : Int32)) = 18 then
    ((rA sc.1 sc.2 (x4 + (1 : Int32))).bind fun v120 =>
    (f_L_forget h x1 v120 x3).bind fun p121 =>
    (rA sc.1 sc.2 (x4 + (1 : Int32))).bind fun v122 =>
    (vcall p121.2 4 x2 (f_X4_forget p121.2 x2 v122)).bind fun p123 =>
    (vcall p123.2 4 x2 (f_X4_thrown p123.2 x2)).bind fun v124 =>
    if v124 = p121.1 then
      (if p121.1 = 0 then
        ((aL p123.2 x3 (0 : Int32)).bind fun v125 =>
        if (lg_cmp v125 (Int32.toInt64 p123.1)) = 0 then
          (b_L_law_1239 sc rec23 p123.2 x1 x2 x3 x4)
        else
          (some (0 : Int32)))
      else
        (b_L_law_1239 sc rec23 p123.2 x1 x2 x3 x4))
    else
      (some (0 : Int32)))
   else
    if (v1 &&& (31 : Int32)) = 19 then
    ((rA sc.1 sc.2 (x4 + (1 : Int32))).bind fun v126 =>
    (f_L_count h x1 v126 x3).bind fun p127 =>
    (rA sc.1 sc.2 (x4 + (1 : Int32))).bind fun v128 =>
    (vcall p127.2 4 x2 (f_X4_count p127.2 x2 v128)).bind fun p129 =>
    (vcall p129.2 4 x2 (f_X4_thrown p129.2 x2)).bind fun v130 =>
    if v130 = p127.1 then
      (if p127.1 = 0 then
        ((aL p129.2 x3 (0 : Int32)).bind fun v131 =>
        if (lg_cmp v131 (Int32.toInt64 p129.1)) = 0 then
          (b_L_law_1295 sc rec23 p129.2 x1 x2 x3 x4)
        else
          (some (0 : Int32)))
      else
        (b_L_law_1295 sc rec23 p129.2 x1 x2 x3 x4))
    else
      (some (0 : Int32)))
   else
    if (v1 &&& (31 : Int32)) = 20 then
    ((vcall h 3 x1 (f_X3_allGoodIn h x1)).bind fun p132 =>
    (vcall p132.2 4 x2 (f_X4_allGoodIn p132.2 x2)).bind fun p133 =>
    if p132.1 = p133.1 then
      (b_L_law_1515 sc rec23 p133.2 x1 x2 x3 x4)
    else
      (some (0 : Int32)))
   else
    if (v1 &&& (31 : Int32)) = 21 then
    ((vcall h 3 x1 (f_X3_allOffIn h x1)).bind fun p134 =>
    (vcall p134.2 4 x2 (f_X4_allOffIn p134.2 x2)).bind fun p135 =>
    if p134.1 = p135.1 then
      (b_L_law_1515 sc rec23 p135.2 x1 x2 x3 x4)
    else
      (some (0 : Int32)))
   else
    if (v1 &&& (31 : Int32)) = 22 then
    ((rA sc.1 sc.2 (x4 + (1 : Int32))).bind fun v136 =>
    (rA sc.1 sc.2 (x4 + (2 : Int32))).bind fun v137 =>
    (rA sc.1 sc.2 (x4 + (3 : Int32))).bind fun v138 =>
    (f_L_ifShort h x1 v136 v137 v138 x3).bind fun p139 =>
    (rA sc.1 sc.2 (x4 + (1 : Int32))).bind fun v140 =>
    (rA sc.1 sc.2 (x4 + (2 : Int32))).bind fun v141 =>
    (rA sc.1 sc.2 (x4 + (3 : Int32))).bind fun v142 =>
    (vcall p139.2 4 x2 (f_X4_ifShort p139.2 x2 v140 v141 v142)).bind fun p143 =>
    (vcall p143.2 4 x2 (f_X4_thrown p143.2 x2)).bind fun v144 =>
    if v144 = p139.1 then
      (if p139.1 = 0 then
        ((aL p143.2 x3 (0 : Int32)).bind fun v145 =>
        if (lg_cmp v145 (Int32.toInt64 p143.1)) = 0 then
          (b_L_law_1401 sc rec23 p143.2 x1 x2 x3 x4)
        else
          (some (0 : Int32)))
      else
        (b_L_law_1401 sc rec23 p143.2 x1 x2 x3 x4))
    else
      (some (0 : Int32)))
   else
    if (v1 &&& (31 : Int32)) = 23 then
    ((rA sc.1 sc.2 (x4 + (1 : Int32))).bind fun v146 =>
    (f_L_leastPatience h x1 v146 x3).bind fun p147 =>
    (rA sc.1 sc.2 (x4 + (1 : Int32))).bind fun v148 =>
    (vcall p147.2 4 x2 (f_X4_leastPatience p147.2 x2 v148)).bind fun p149 =>
    (vcall p149.2 4 x2 (f_X4_thrown p149.2 x2)).bind fun v150 =>
    if v150 = p147.1 then
      (if p147.1 = 0 then
        ((aL p149.2 x3 (0 : Int32)).bind fun v151 =>
        if (lg_cmp v151 (Int32.toInt64 p149.1)) = 0 then
          (b_L_law_1457 sc rec23 p149.2 x1 x2 x3 x4)
        else
          (some (0 : Int32)))
      else
        (b_L_law_1457 sc rec23 p149.2 x1 x2 x3 x4))
    else
      (some (0 : Int32)))
   else
    if (v1 &&& (31 : Int32)) = 24 then
    ((vcall h 3 x1 (f_X3_goodShare h x1)).bind fun v152 =>
    (vcall h 4 x2 (f_X4_goodShare h x2)).bind fun p153 =>
    if (Op.cmpValue (FP.dcmp v152 p153.1) .l) = 0 then
      (b_L_law_1498 sc rec23 p153.2 x1 x2 x3 x4)
    else
      (if (Op.cmpValue (FP.dcmp v152 v152) .l) = 0 then
        (b_L_law_1496 sc p153.2)
      else
        (if (Op.cmpValue (FP.dcmp p153.1 p153.1) .l) = 0 then
          (b_L_law_1496 sc p153.2)
        else
          (b_L_law_1498 sc rec23 p153.2 x1 x2 x3 x4))))
   else
    if (v1 &&& (31 : Int32)) = 25 then
    ((vcall h 3 x1 (f_X3_digest h x1)).bind fun p154 =>
    (vcall p154.2 4 x2 (f_X4_digest p154.2 x2)).bind fun p155 =>
    if (lg_cmp p154.1 p155.1) = 0 then
      (b_L_law_1515 sc rec23 p155.2 x1 x2 x3 x4)
    else
      (some (0 : Int32)))
   else
    (b_L_law_1515 sc rec23 h x1 x2 x3 x4))
def f_L_law_23 (sc : Nat × (Nat → Int32)) : Nat → MH → Nat → Nat → Nat → Int32 → Option Int32
  | 0 => fun _ _ _ _ _ => none
  | n + 1 => fun h x1 x2 x3 x4 => b_L_law_23 sc (f_L_law_23 sc n) h x1 x2 x3 x4
def f_L_law (sc : Nat × (Nat → Int32)) (h : MH) : Option Int32 :=
  (nO h 3 [.null, .null, .null, .int 0, .null, .int 0, .null]).bind fun h156 =>
  (f_X3_init h156 (h.length)).bind fun h157 =>
  (some (h.length)).bind fun v158 =>
  (nO h157 4 [.int 0, .null, .int 0, .null, .int 0, .null, .int 0, .int 0, .null, .null, .int 0, .int 0, .int 0, .int 0, .null, .long 0]).bind fun h159 =>
  (f_X4_init h159 (h157.length)).bind fun h160 =>
  (some (h157.length)).bind fun v161 =>
  (nA h160 1 (1, .inr (.inl (fun _ => 0)))).bind fun h162 =>
  (some (h160.length)).bind fun v163 =>
  f_L_law_23 sc FU h162 v158 v161 v163 (0 : Int32)
