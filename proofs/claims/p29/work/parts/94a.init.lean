/-! a new object, the law's five rows -/
def uD (G : Nat → MC) (i : Nat) (c : MC) : Nat → MC := fun j => if j = i then c else G j
def pD (G : Nat → MC) (b : Nat) (P : PV) : Nat → MC := fun i => if b ≤ i ∧ i < b + 16 then pc_ b P (i - b) else G i
theorem pD_at {G : Nat → MC} {b : Nat} {P : PV} {k : Nat} (hk : k < 16) : pD G b P (b + k) = pc_ b P k := by
  unfold pD
  rw [if_pos (by omega), show b + k - b = k by omega]
theorem pD_ne {G : Nat → MC} {b : Nat} {P : PV} {i : Nat} (h : i < b ∨ b + 16 ≤ i) : pD G b P i = G i := if_neg (by omega)
def P0v : PV := (fun k => if k = 2 then 100 else 0, fun _ _ => 0)
def plL (n : Nat) : MH := (List.range 16).map (pc_ n P0v)
theorem bindP {β : Type} {h l l' : MH} {ci x0 j k : Nat} {v v' : Value} {f : MH → Option β} (hx : x0 = h.length + j) (hv : v = v') (e : hP l ci j k v' = some l') : (hP (h ++ l) ci x0 k v).bind f = f (h ++ l') := by
  subst hx
  subst hv
  have h1 : hP (h ++ l) ci (h.length + j) k v = some (h ++ l') := by
    unfold hP at e ⊢
    rw [List.getElem?_append_right (by omega), show h.length + j - h.length = j by omega]
    cases hl : l[j]? with
    | none =>
      rw [hl] at e
      cases e
    | some c =>
      rw [hl] at e
      cases c with
      | inl x => cases e
      | inr q =>
        by_cases hc : q.1 = ci ∧ k < q.2.length
        · have e2 : (if q.1 = ci ∧ k < q.2.length then some (l.set j (.inr (ci, q.2.set k v))) else none) = some l' := e
          rw [if_pos hc] at e2
          show (if q.1 = ci ∧ k < q.2.length then some ((h ++ l).set (h.length + j) (.inr (ci, q.2.set k v))) else none) = _
          rw [if_pos hc, List.set_append_right _ _ (by omega), show h.length + j - h.length = j by omega]
          rw [Option.some.inj e2]
        · have e2 : (if q.1 = ci ∧ k < q.2.length then some (l.set j (.inr (ci, q.2.set k v))) else none) = some l' := e
          rw [if_neg hc] at e2
          cases e2
  rw [h1, obs]
theorem bindA {β : Type} {h l : MH} {t : Nat} {x : vp_A} {f : MH → Option β} (hl : h.length + l.length < 1000) : (nA (h ++ l) t x).bind f = f (h ++ (l ++ [.inl (t, x)])) := by
  unfold nA
  rw [if_pos (by rw [List.length_append]; exact hl), obs, List.append_assoc]
theorem bindO {β : Type} {h l : MH} {t : Nat} {x : List Value} {f : MH → Option β} (hl : h.length + l.length < 1000) : (nO (h ++ l) t x).bind f = f (h ++ (l ++ [.inr (t, x)])) := by
  unfold nO
  rw [if_pos (by rw [List.length_append]; exact hl), obs, List.append_assoc]
theorem init_list {β : Type} (h : MH) (hn : h.length < 900) (f : MH → Option β) : (f_X1_init (h ++ [.inr (1, [.int 0, .int 0, .int 0, .int 0, .null, .null, .null, .null, .null, .null, .null, .null, .null, .null, .null, .null, .null, .null])]) h.length).bind f = f (h ++ [.inr (1, [.int 0, .int 0, .int 100, .int 0, .ref (h.length + 1), .ref (h.length + 2), .ref (h.length + 3), .ref (h.length + 4), .ref (h.length + 5), .ref (h.length + 6), .ref (h.length + 7), .ref (h.length + 8), .ref (h.length + 9), .ref (h.length + 10), .ref (h.length + 11), .ref (h.length + 13), .ref (h.length + 14), .ref (h.length + 15)]), .inl (0, 56, .inl (fun _ => 0)), .inl (0, 8, .inl (fun _ => 0)), .inl (0, 8, .inl (fun _ => 0)), .inl (0, 8, .inl (fun _ => 0)), .inl (0, 8, .inl (fun _ => 0)), .inl (0, 8, .inl (fun _ => 0)), .inl (0, 8, .inl (fun _ => 0)), .inl (0, 8, .inl (fun _ => 0)), .inl (0, 8, .inl (fun _ => 0)), .inl (0, 32, .inl (fun _ => 0)), .inr (0, [.ref (h.length + 12), .int 0]), .inl (0, 64, .inl (fun _ => 0)), .inl (0, 8, .inl (fun _ => 0)), .inl (0, 8, .inl (fun _ => 0)), .inl (0, 8, .inl (fun _ => 0))]) := by
  have e : f_X1_init (h ++ [.inr (1, [.int 0, .int 0, .int 0, .int 0, .null, .null, .null, .null, .null, .null, .null, .null, .null, .null, .null, .null, .null, .null])]) h.length = some (h ++ [.inr (1, [.int 0, .int 0, .int 100, .int 0, .ref (h.length + 1), .ref (h.length + 2), .ref (h.length + 3), .ref (h.length + 4), .ref (h.length + 5), .ref (h.length + 6), .ref (h.length + 7), .ref (h.length + 8), .ref (h.length + 9), .ref (h.length + 10), .ref (h.length + 11), .ref (h.length + 13), .ref (h.length + 14), .ref (h.length + 15)]), .inl (0, 56, .inl (fun _ => 0)), .inl (0, 8, .inl (fun _ => 0)), .inl (0, 8, .inl (fun _ => 0)), .inl (0, 8, .inl (fun _ => 0)), .inl (0, 8, .inl (fun _ => 0)), .inl (0, 8, .inl (fun _ => 0)), .inl (0, 8, .inl (fun _ => 0)), .inl (0, 8, .inl (fun _ => 0)), .inl (0, 8, .inl (fun _ => 0)), .inl (0, 32, .inl (fun _ => 0)), .inr (0, [.ref (h.length + 12), .int 0]), .inl (0, 64, .inl (fun _ => 0)), .inl (0, 8, .inl (fun _ => 0)), .inl (0, 8, .inl (fun _ => 0)), .inl (0, 8, .inl (fun _ => 0))]) := by
    unfold f_X1_init f_X0_init
    rw [bindP (j := 0) (v' := .int 100) (l' := [.inr (1, [.int 0, .int 0, .int 100, .int 0, .null, .null, .null, .null, .null, .null, .null, .null, .null, .null, .null, .null, .null, .null])]) (by rfl) (by rfl) (by rfl)]
    rw [bindA (by show h.length + 1 < 1000; omega)]
    simp only [List.cons_append, List.nil_append]
    rw [bindP (j := 0) (v' := .ref (h.length + 1)) (l' := [.inr (1, [.int 0, .int 0, .int 100, .int 0, .ref (h.length + 1), .null, .null, .null, .null, .null, .null, .null, .null, .null, .null, .null, .null, .null]), .inl (0, 56, .inl (fun _ => 0))]) (by rfl) (by rw [List.length_append]; rfl) (by rfl)]
    rw [bindA (by show h.length + 2 < 1000; omega)]
    simp only [List.cons_append, List.nil_append]
    rw [bindP (j := 0) (v' := .ref (h.length + 2)) (l' := [.inr (1, [.int 0, .int 0, .int 100, .int 0, .ref (h.length + 1), .ref (h.length + 2), .null, .null, .null, .null, .null, .null, .null, .null, .null, .null, .null, .null]), .inl (0, 56, .inl (fun _ => 0)), .inl (0, 8, .inl (fun _ => 0))]) (by rfl) (by rw [List.length_append]; rfl) (by rfl)]
    rw [bindA (by show h.length + 3 < 1000; omega)]
    simp only [List.cons_append, List.nil_append]
    rw [bindP (j := 0) (v' := .ref (h.length + 3)) (l' := [.inr (1, [.int 0, .int 0, .int 100, .int 0, .ref (h.length + 1), .ref (h.length + 2), .ref (h.length + 3), .null, .null, .null, .null, .null, .null, .null, .null, .null, .null, .null]), .inl (0, 56, .inl (fun _ => 0)), .inl (0, 8, .inl (fun _ => 0)), .inl (0, 8, .inl (fun _ => 0))]) (by rfl) (by rw [List.length_append]; rfl) (by rfl)]
    rw [bindA (by show h.length + 4 < 1000; omega)]
    simp only [List.cons_append, List.nil_append]
    rw [bindP (j := 0) (v' := .ref (h.length + 4)) (l' := [.inr (1, [.int 0, .int 0, .int 100, .int 0, .ref (h.length + 1), .ref (h.length + 2), .ref (h.length + 3), .ref (h.length + 4), .null, .null, .null, .null, .null, .null, .null, .null, .null, .null]), .inl (0, 56, .inl (fun _ => 0)), .inl (0, 8, .inl (fun _ => 0)), .inl (0, 8, .inl (fun _ => 0)), .inl (0, 8, .inl (fun _ => 0))]) (by rfl) (by rw [List.length_append]; rfl) (by rfl)]
    rw [bindA (by show h.length + 5 < 1000; omega)]
    simp only [List.cons_append, List.nil_append]
    rw [bindP (j := 0) (v' := .ref (h.length + 5)) (l' := [.inr (1, [.int 0, .int 0, .int 100, .int 0, .ref (h.length + 1), .ref (h.length + 2), .ref (h.length + 3), .ref (h.length + 4), .ref (h.length + 5), .null, .null, .null, .null, .null, .null, .null, .null, .null]), .inl (0, 56, .inl (fun _ => 0)), .inl (0, 8, .inl (fun _ => 0)), .inl (0, 8, .inl (fun _ => 0)), .inl (0, 8, .inl (fun _ => 0)), .inl (0, 8, .inl (fun _ => 0))]) (by rfl) (by rw [List.length_append]; rfl) (by rfl)]
    rw [bindA (by show h.length + 6 < 1000; omega)]
    simp only [List.cons_append, List.nil_append]
    rw [bindP (j := 0) (v' := .ref (h.length + 6)) (l' := [.inr (1, [.int 0, .int 0, .int 100, .int 0, .ref (h.length + 1), .ref (h.length + 2), .ref (h.length + 3), .ref (h.length + 4), .ref (h.length + 5), .ref (h.length + 6), .null, .null, .null, .null, .null, .null, .null, .null]), .inl (0, 56, .inl (fun _ => 0)), .inl (0, 8, .inl (fun _ => 0)), .inl (0, 8, .inl (fun _ => 0)), .inl (0, 8, .inl (fun _ => 0)), .inl (0, 8, .inl (fun _ => 0)), .inl (0, 8, .inl (fun _ => 0))]) (by rfl) (by rw [List.length_append]; rfl) (by rfl)]
    rw [bindA (by show h.length + 7 < 1000; omega)]
    simp only [List.cons_append, List.nil_append]
    rw [bindP (j := 0) (v' := .ref (h.length + 7)) (l' := [.inr (1, [.int 0, .int 0, .int 100, .int 0, .ref (h.length + 1), .ref (h.length + 2), .ref (h.length + 3), .ref (h.length + 4), .ref (h.length + 5), .ref (h.length + 6), .ref (h.length + 7), .null, .null, .null, .null, .null, .null, .null]), .inl (0, 56, .inl (fun _ => 0)), .inl (0, 8, .inl (fun _ => 0)), .inl (0, 8, .inl (fun _ => 0)), .inl (0, 8, .inl (fun _ => 0)), .inl (0, 8, .inl (fun _ => 0)), .inl (0, 8, .inl (fun _ => 0)), .inl (0, 8, .inl (fun _ => 0))]) (by rfl) (by rw [List.length_append]; rfl) (by rfl)]
    rw [bindA (by show h.length + 8 < 1000; omega)]
    simp only [List.cons_append, List.nil_append]
    rw [bindP (j := 0) (v' := .ref (h.length + 8)) (l' := [.inr (1, [.int 0, .int 0, .int 100, .int 0, .ref (h.length + 1), .ref (h.length + 2), .ref (h.length + 3), .ref (h.length + 4), .ref (h.length + 5), .ref (h.length + 6), .ref (h.length + 7), .ref (h.length + 8), .null, .null, .null, .null, .null, .null]), .inl (0, 56, .inl (fun _ => 0)), .inl (0, 8, .inl (fun _ => 0)), .inl (0, 8, .inl (fun _ => 0)), .inl (0, 8, .inl (fun _ => 0)), .inl (0, 8, .inl (fun _ => 0)), .inl (0, 8, .inl (fun _ => 0)), .inl (0, 8, .inl (fun _ => 0)), .inl (0, 8, .inl (fun _ => 0))]) (by rfl) (by rw [List.length_append]; rfl) (by rfl)]
    rw [bindA (by show h.length + 9 < 1000; omega)]
    simp only [List.cons_append, List.nil_append]
    rw [bindP (j := 0) (v' := .ref (h.length + 9)) (l' := [.inr (1, [.int 0, .int 0, .int 100, .int 0, .ref (h.length + 1), .ref (h.length + 2), .ref (h.length + 3), .ref (h.length + 4), .ref (h.length + 5), .ref (h.length + 6), .ref (h.length + 7), .ref (h.length + 8), .ref (h.length + 9), .null, .null, .null, .null, .null]), .inl (0, 56, .inl (fun _ => 0)), .inl (0, 8, .inl (fun _ => 0)), .inl (0, 8, .inl (fun _ => 0)), .inl (0, 8, .inl (fun _ => 0)), .inl (0, 8, .inl (fun _ => 0)), .inl (0, 8, .inl (fun _ => 0)), .inl (0, 8, .inl (fun _ => 0)), .inl (0, 8, .inl (fun _ => 0)), .inl (0, 8, .inl (fun _ => 0))]) (by rfl) (by rw [List.length_append]; rfl) (by rfl)]
    rw [bindA (by show h.length + 10 < 1000; omega)]
    simp only [List.cons_append, List.nil_append]
    rw [bindP (j := 0) (v' := .ref (h.length + 10)) (l' := [.inr (1, [.int 0, .int 0, .int 100, .int 0, .ref (h.length + 1), .ref (h.length + 2), .ref (h.length + 3), .ref (h.length + 4), .ref (h.length + 5), .ref (h.length + 6), .ref (h.length + 7), .ref (h.length + 8), .ref (h.length + 9), .ref (h.length + 10), .null, .null, .null, .null]), .inl (0, 56, .inl (fun _ => 0)), .inl (0, 8, .inl (fun _ => 0)), .inl (0, 8, .inl (fun _ => 0)), .inl (0, 8, .inl (fun _ => 0)), .inl (0, 8, .inl (fun _ => 0)), .inl (0, 8, .inl (fun _ => 0)), .inl (0, 8, .inl (fun _ => 0)), .inl (0, 8, .inl (fun _ => 0)), .inl (0, 8, .inl (fun _ => 0)), .inl (0, 32, .inl (fun _ => 0))]) (by rfl) (by rw [List.length_append]; rfl) (by rfl)]
    rw [bindO (by show h.length + 11 < 1000; omega)]
    simp only [List.cons_append, List.nil_append]
    rw [bindA (by show h.length + 12 < 1000; omega)]
    simp only [List.cons_append, List.nil_append]
    rw [bindP (j := 11) (v' := .ref (h.length + 12)) (l' := [.inr (1, [.int 0, .int 0, .int 100, .int 0, .ref (h.length + 1), .ref (h.length + 2), .ref (h.length + 3), .ref (h.length + 4), .ref (h.length + 5), .ref (h.length + 6), .ref (h.length + 7), .ref (h.length + 8), .ref (h.length + 9), .ref (h.length + 10), .null, .null, .null, .null]), .inl (0, 56, .inl (fun _ => 0)), .inl (0, 8, .inl (fun _ => 0)), .inl (0, 8, .inl (fun _ => 0)), .inl (0, 8, .inl (fun _ => 0)), .inl (0, 8, .inl (fun _ => 0)), .inl (0, 8, .inl (fun _ => 0)), .inl (0, 8, .inl (fun _ => 0)), .inl (0, 8, .inl (fun _ => 0)), .inl (0, 8, .inl (fun _ => 0)), .inl (0, 32, .inl (fun _ => 0)), .inr (0, [.ref (h.length + 12), .int 0]), .inl (0, 64, .inl (fun _ => 0))]) (by rw [List.length_append]; rfl) (by rw [List.length_append]; rfl) (by rfl)]
    rw [obs]
    rw [bindP (j := 0) (v' := .ref (h.length + 11)) (l' := [.inr (1, [.int 0, .int 0, .int 100, .int 0, .ref (h.length + 1), .ref (h.length + 2), .ref (h.length + 3), .ref (h.length + 4), .ref (h.length + 5), .ref (h.length + 6), .ref (h.length + 7), .ref (h.length + 8), .ref (h.length + 9), .ref (h.length + 10), .ref (h.length + 11), .null, .null, .null]), .inl (0, 56, .inl (fun _ => 0)), .inl (0, 8, .inl (fun _ => 0)), .inl (0, 8, .inl (fun _ => 0)), .inl (0, 8, .inl (fun _ => 0)), .inl (0, 8, .inl (fun _ => 0)), .inl (0, 8, .inl (fun _ => 0)), .inl (0, 8, .inl (fun _ => 0)), .inl (0, 8, .inl (fun _ => 0)), .inl (0, 8, .inl (fun _ => 0)), .inl (0, 32, .inl (fun _ => 0)), .inr (0, [.ref (h.length + 12), .int 0]), .inl (0, 64, .inl (fun _ => 0))]) (by rfl) (by rw [List.length_append]; rfl) (by rfl)]
    rw [bindA (by show h.length + 13 < 1000; omega)]
    simp only [List.cons_append, List.nil_append]
    rw [bindP (j := 0) (v' := .ref (h.length + 13)) (l' := [.inr (1, [.int 0, .int 0, .int 100, .int 0, .ref (h.length + 1), .ref (h.length + 2), .ref (h.length + 3), .ref (h.length + 4), .ref (h.length + 5), .ref (h.length + 6), .ref (h.length + 7), .ref (h.length + 8), .ref (h.length + 9), .ref (h.length + 10), .ref (h.length + 11), .ref (h.length + 13), .null, .null]), .inl (0, 56, .inl (fun _ => 0)), .inl (0, 8, .inl (fun _ => 0)), .inl (0, 8, .inl (fun _ => 0)), .inl (0, 8, .inl (fun _ => 0)), .inl (0, 8, .inl (fun _ => 0)), .inl (0, 8, .inl (fun _ => 0)), .inl (0, 8, .inl (fun _ => 0)), .inl (0, 8, .inl (fun _ => 0)), .inl (0, 8, .inl (fun _ => 0)), .inl (0, 32, .inl (fun _ => 0)), .inr (0, [.ref (h.length + 12), .int 0]), .inl (0, 64, .inl (fun _ => 0)), .inl (0, 8, .inl (fun _ => 0))]) (by rfl) (by rw [List.length_append]; rfl) (by rfl)]
    rw [bindA (by show h.length + 14 < 1000; omega)]
    simp only [List.cons_append, List.nil_append]
    rw [bindP (j := 0) (v' := .ref (h.length + 14)) (l' := [.inr (1, [.int 0, .int 0, .int 100, .int 0, .ref (h.length + 1), .ref (h.length + 2), .ref (h.length + 3), .ref (h.length + 4), .ref (h.length + 5), .ref (h.length + 6), .ref (h.length + 7), .ref (h.length + 8), .ref (h.length + 9), .ref (h.length + 10), .ref (h.length + 11), .ref (h.length + 13), .ref (h.length + 14), .null]), .inl (0, 56, .inl (fun _ => 0)), .inl (0, 8, .inl (fun _ => 0)), .inl (0, 8, .inl (fun _ => 0)), .inl (0, 8, .inl (fun _ => 0)), .inl (0, 8, .inl (fun _ => 0)), .inl (0, 8, .inl (fun _ => 0)), .inl (0, 8, .inl (fun _ => 0)), .inl (0, 8, .inl (fun _ => 0)), .inl (0, 8, .inl (fun _ => 0)), .inl (0, 32, .inl (fun _ => 0)), .inr (0, [.ref (h.length + 12), .int 0]), .inl (0, 64, .inl (fun _ => 0)), .inl (0, 8, .inl (fun _ => 0)), .inl (0, 8, .inl (fun _ => 0))]) (by rfl) (by rw [List.length_append]; rfl) (by rfl)]
    rw [bindA (by show h.length + 15 < 1000; omega)]
    simp only [List.cons_append, List.nil_append]
    rw [bindP (j := 0) (v' := .ref (h.length + 15)) (l' := [.inr (1, [.int 0, .int 0, .int 100, .int 0, .ref (h.length + 1), .ref (h.length + 2), .ref (h.length + 3), .ref (h.length + 4), .ref (h.length + 5), .ref (h.length + 6), .ref (h.length + 7), .ref (h.length + 8), .ref (h.length + 9), .ref (h.length + 10), .ref (h.length + 11), .ref (h.length + 13), .ref (h.length + 14), .ref (h.length + 15)]), .inl (0, 56, .inl (fun _ => 0)), .inl (0, 8, .inl (fun _ => 0)), .inl (0, 8, .inl (fun _ => 0)), .inl (0, 8, .inl (fun _ => 0)), .inl (0, 8, .inl (fun _ => 0)), .inl (0, 8, .inl (fun _ => 0)), .inl (0, 8, .inl (fun _ => 0)), .inl (0, 8, .inl (fun _ => 0)), .inl (0, 8, .inl (fun _ => 0)), .inl (0, 32, .inl (fun _ => 0)), .inr (0, [.ref (h.length + 12), .int 0]), .inl (0, 64, .inl (fun _ => 0)), .inl (0, 8, .inl (fun _ => 0)), .inl (0, 8, .inl (fun _ => 0)), .inl (0, 8, .inl (fun _ => 0))]) (by rfl) (by rw [List.length_append]; rfl) (by rfl)]
  rw [e, obs]
def mkH (k : Nat) (G : Nat → MC) : MH := (List.range k).map G
theorem mk_len (k : Nat) (G : Nat → MC) : (mkH k G).length = k := by simp [mkH]
theorem mk_get {k i : Nat} (G : Nat → MC) (hi : i < k) : (mkH k G)[i]? = some (G i) := by
  simp [mkH, List.getElem?_range hi]
theorem mk_set (k i : Nat) (G : Nat → MC) (c : MC) : (mkH k G).set i c = mkH k (uD G i c) := by
  apply List.ext_getElem?
  intro j
  by_cases hj : j < k
  · rw [mk_get _ hj, List.getElem?_set]
    by_cases hij : i = j
    · subst hij
      simp [mk_len, hj, uD]
    · rw [if_neg hij, mk_get _ hj]
      simp [uD, Ne.symm hij]
  · rw [List.getElem?_eq_none (by rw [List.length_set, mk_len]; omega), List.getElem?_eq_none (by rw [mk_len]; omega)]
theorem mk_ext {k k' : Nat} {G G' : Nat → MC} (hk : k = k') (h : ∀ i, i < k → G i = G' i) : mkH k G = mkH k' G' := by
  subst hk
  unfold mkH
  apply List.map_congr_left
  intro i hi
  rw [List.mem_range] at hi
  exact h i hi
theorem mk_app (k : Nat) (G : Nat → MC) (L : List MC) : mkH k G ++ L = mkH (k + L.length) (fun i => if i < k then G i else L.getD (i - k) (.inl (0, 0, .inl (fun _ => 0)))) := by
  apply List.ext_getElem?
  intro j
  by_cases hj : j < k
  · rw [List.getElem?_append_left (by rw [mk_len]; exact hj), mk_get _ hj, mk_get _ (by omega), if_pos hj]
  · rw [List.getElem?_append_right (by rw [mk_len]; omega), mk_len]
    by_cases hj2 : j - k < L.length
    · rw [mk_get _ (by omega), if_neg hj, List.getD_eq_getElem?_getD, List.getElem?_eq_getElem hj2]
      rfl
    · rw [List.getElem?_eq_none (by omega), List.getElem?_eq_none (by rw [mk_len]; omega)]
theorem mk_1 (k : Nat) (G : Nat → MC) (c : MC) : mkH k G ++ [c] = mkH (k + 1) (uD G k c) := by
  rw [mk_app]
  refine mk_ext rfl (fun i hi => ?_)
  have hi : i < k + 1 := hi
  unfold uD
  by_cases h : i < k
  · rw [if_pos h, if_neg (by omega)]
  · rw [if_neg h, if_pos (by omega), show i - k = 0 by omega]
    rfl
theorem plL_eq (n : Nat) : plL n = [pc_ n P0v 0, pc_ n P0v 1, pc_ n P0v 2, pc_ n P0v 3, pc_ n P0v 4, pc_ n P0v 5, pc_ n P0v 6, pc_ n P0v 7, pc_ n P0v 8, pc_ n P0v 9, pc_ n P0v 10, pc_ n P0v 11, pc_ n P0v 12, pc_ n P0v 13, pc_ n P0v 14, pc_ n P0v 15] := rfl
theorem mk_pl (k : Nat) (G : Nat → MC) : mkH k G ++ plL k = mkH (k + 16) (pD G k P0v) := by
  rw [mk_app]
  refine mk_ext (by simp [plL]) (fun i hi => ?_)
  rw [show (plL k).length = 16 by simp [plL]] at hi
  unfold pD
  by_cases h : i < k
  · rw [if_pos h, if_neg (by omega)]
  · rw [if_neg h, if_pos (by omega)]
    rw [List.getD_eq_getElem?_getD]
    unfold plL
    rw [List.getElem?_map, List.getElem?_range (by omega)]
    rfl
theorem b_nO {β : Type} {k : Nat} {G : Nat → MC} {ci : Nat} {fs : List Value} {f : MH → Option β} (hk : k < 1000) : (nO (mkH k G) ci fs).bind f = f (mkH (k + 1) (uD G k (.inr (ci, fs)))) := by
  unfold nO
  rw [if_pos (by rw [mk_len]; exact hk), obs, mk_1]
theorem b_nA {β : Type} {k : Nat} {G : Nat → MC} {t : Nat} {x : vp_A} {f : MH → Option β} (hk : k < 1000) : (nA (mkH k G) t x).bind f = f (mkH (k + 1) (uD G k (.inl (t, x)))) := by
  unfold nA
  rw [if_pos (by rw [mk_len]; exact hk), obs, mk_1]
theorem b_hP {β : Type} {k i j ci : Nat} {G : Nat → MC} {v : Value} {f : MH → Option β} (fs : List Value) (hi : i < k) (hG : G i = .inr (ci, fs)) (hj : j < fs.length) : (hP (mkH k G) ci i j v).bind f = f (mkH k (uD G i (.inr (ci, fs.set j v)))) := by
  have e : hP (mkH k G) ci i j v = some (mkH k (uD G i (.inr (ci, fs.set j v)))) := by
    unfold hP
    rw [mk_get _ hi, hG]
    show (if ci = ci ∧ j < fs.length then some ((mkH k G).set i (.inr (ci, fs.set j v))) else none) = _
    rw [if_pos ⟨rfl, hj⟩, mk_set]
  rw [e, obs]
theorem b_hR {β : Type} {k i j ci x : Nat} {G : Nat → MC} {f : Nat → Option β} (fs : List Value) (hi : i < k) (hG : G i = .inr (ci, fs)) (hj : fs[j]? = some (.ref x)) : (hR (mkH k G) ci i j).bind f = f x := by
  have e : hR (mkH k G) ci i j = some x := by
    unfold hR hF
    rw [mk_get _ hi, hG]
    show (match (if ci = ci then fs[j]? else none) with | some (.ref x) => some x | _ => none) = _
    rw [if_pos rfl, hj]
  rw [e, obs]
theorem init_pl {β : Type} {k : Nat} {G : Nat → MC} (hk : k < 900) (f : MH → Option β) : (nO (mkH k G) 1 [.int 0, .int 0, .int 0, .int 0, .null, .null, .null, .null, .null, .null, .null, .null, .null, .null, .null, .null, .null, .null]).bind (fun h1 => (f_X1_init h1 (mkH k G).length).bind f) = f (mkH (k + 16) (pD G k P0v)) := by
  unfold nO
  rw [if_pos (by rw [mk_len]; omega), obs, init_list _ (by rw [mk_len]; exact hk), ← mk_pl, plL_eq, mk_len]
  rfl
