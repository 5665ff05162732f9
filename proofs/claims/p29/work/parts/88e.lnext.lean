/-! the law's rule: what a rail becomes -/
variable {G : GB} {c : Nat} {X : LX}
theorem restF_s (S : Nat → Int32) (V : Nat → Nat → Int32) (res : Int32) (r k m : Nat) : restF S V res r k (m + 1) = if tb (V k 7) r = true ∧ ¬ ((S k = 0 ∨ S k = 5) ∧ ¬ res < V k 10) then false else restF S V res r (k + 1) m := rfl
theorem badF_s (S : Nat → Int32) (V : Nat → Nat → Int32) (nd : Int32) (k m : Nat) : badF S V nd k (m + 1) = if tb nd k = true ∧ (¬ S k = 3 ∨ flgR (V k) = false) then nI k else badF S V nd (k + 1) m := rfl
theorem l_nx343 (hc : CK G c) {n r : Nat} (hn : X 4 0 = nI n) (hn6 : n ≤ 6) {s : Nat → Nat} (hs : ∀ k, s k < 8) (hr : r < n) : ∀ (m k fuel : Nat), k + m = n → m < fuel → f_L_next_343 (hl G c X) fuel (nI r) (nI (okN s n)) c (c + 3) (nI k) = some (if restF (fun q => nI (s q)) (rowX X) (X 4 1) r k m = true then 24 else -1) := by
  intro m
  induction m with
  | zero =>
    intro k fuel hk hf
    obtain ⟨fuel, rfl⟩ : ∃ f, fuel = f + 1 := ⟨fuel - 1, by omega⟩
    show b_L_next_343 _ _ _ _ _ _ _ = _
    unfold b_L_next_343
    rw [l_a4 hc, l6_0, obs, hn, if_pos (nI_le (by omega) (by omega))]
    rfl
  | succ m ih =>
    intro k fuel hk hf
    obtain ⟨fuel, rfl⟩ : ∃ f, fuel = f + 1 := ⟨fuel - 1, by omega⟩
    have ih := ih (k + 1) fuel (by omega) (by omega)
    have hkn : k < n := by omega
    show b_L_next_343 _ _ _ _ _ _ _ = _
    unfold b_L_next_343 b_L_next_408 b_L_next_410
    rw [l_a4 hc, l6_0, obs, hn, if_neg (nI_ge (by omega) (by omega)), jx9, l_a1 hc, bd_nI (by omega) (by decide), obs, nI_1, ih]
    have e7 : X 1 (9 * k) = rowX X k 7 := rfl
    have rT : tb (rowX X k 7) r = true ∧ ¬ ((nI (s k) = 0 ∨ nI (s k) = 5) ∧ ¬ X 4 1 < rowX X k 10) → restF (fun q => nI (s q)) (rowX X) (X 4 1) r k (m + 1) = false := fun h => if_pos h
    have rF : ¬ (tb (rowX X k 7) r = true ∧ ¬ ((nI (s k) = 0 ∨ nI (s k) = 5) ∧ ¬ X 4 1 < rowX X k 10)) → restF (fun q => nI (s q)) (rowX X) (X 4 1) r k (m + 1) = restF (fun q => nI (s q)) (rowX X) (X 4 1) r (k + 1) m := fun h => if_neg h
    rw [e7]
    by_cases ht : tb (rowX X k 7) r = true
    · rw [if_pos ((tb_has _ (by omega)).2 ht), ixa3, l_a1 hc, bd_nI (by omega) (by decide), obs, l_a4 hc, l6_1, obs, jx3, old_get hs hn6 hkn]
      have e10 : X 1 (9 * k + 3) = rowX X k 10 := rfl
      rw [e10]
      by_cases h1 : X 4 1 < rowX X k 10
      · rw [if_pos h1, rT ⟨ht, fun h => h.2 h1⟩]
        rfl
      · rw [if_neg h1]
        by_cases h2 : nI (s k) = 0
        · rw [if_pos h2, rF (fun h => h.2 ⟨Or.inl h2, h1⟩)]
        · rw [if_neg h2]
          by_cases h3 : nI (s k) = 5
          · rw [if_pos h3, rF (fun h => h.2 ⟨Or.inr h3, h1⟩)]
          · rw [if_neg h3, rT ⟨ht, fun h => h.1.elim h2 h3⟩]
            rfl
    · rw [if_neg (fun h => ht ((tb_has _ (by omega)).1 h)), rF (fun h => ht h.1)]
/-- what a rail becomes, as the law writes it -/
def toD (wn flag rest : Bool) (bad : Int32) (r : Nat) (row : Nat → Int32) : Int32 :=
  if bad = -1 then (if row 9 = 2 then (if flag then 23 else if row 13 + 1 < row 5 then -1 else 6 + 20 * (nI r + 2)) else (if flag then (if wn then -1 else if rest then 24 else -1) else 6 + 20 * (nI r + 2))) else 4 + 20 * (bad + 2)
def toC (wn dis flag rest : Bool) (bad : Int32) (r : Nat) (row : Nat → Int32) : Int32 :=
  if row 9 = 0 then (if wn then 1 else -1)
  else if row 9 = 1 then (if wn then (if dis then (if bad = -1 then (if row 13 < row 4 then -1 else 2) else -1) else -1) else 0)
  else if row 9 = 4 then (if dis then (if wn then 1 else 0) else -1)
  else if row 9 = 5 then (if wn then -1 else (if dis then 0 else -1))
  else if row 9 = 2 then (if wn then toD wn flag rest bad r row else 24)
  else toD wn flag rest bad r row
theorem m1_le : ¬ (0 : Int32) ≤ -1 := by decide
theorem m1_lt : (-1 : Int32) < 0 := by decide
theorem bit1 (b : Bool) : ((if b = true then (1 : Int32) else 0) = 0) ↔ b = false := by cases b <;> decide
theorem l_nx243 (hc : CK G c) {n r : Nat} (hn : X 4 0 = nI n) (hn6 : n ≤ 6) {s : Nat → Nat} (hs : ∀ k, s k < 8) (hr : r < n) (wn : Bool) {bad : Int32} (hb : bad = -1 ∨ ∃ k, k < 2 ^ 31 ∧ bad = nI k) {x9 : Int32} (h9 : x9 = rowX X r 9) : b_L_next_243 (hl G c X) (nI r) (nI (okN s n)) 133 c (c + 3) (nI (9 * r)) bad (if wn = true then 1 else 0) x9 = some (toD wn (flgR (rowX X r)) (restF (fun q => nI (s q)) (rowX X) (X 4 1) r (r + 1) (n - (r + 1))) bad r (rowX X r)) := by
  subst h9
  unfold b_L_next_243 toD b_L_next_311
  rcases hb with rfl | ⟨k, hk, rfl⟩
  · rw [if_pos m1_lt, if_pos rfl]
    by_cases h2 : rowX X r 9 = 2
    · rw [if_pos h2, if_pos h2, l_flag hc (by omega), obs]
      simp only [bit1]
      cases hf : flgR (rowX X r) with
      | true => simp only [Bool.true_eq_false, if_false, if_true]
      | false =>
        simp (disch := omega) only [if_true, Bool.false_eq_true, if_false, obs, l_a0 hc, l_a1 hc, l_a2 hc, l_a3 hc, l_a4 hc, l_s0 hc, l_s1 hc, l_s2 hc, l_s3 hc, l_s4 hc, jx9, jx7, jx3, ix4l, ixa0, ixa1, ixa2, ixa3, ixa4, ixa5, ixa6, ixa7, ixa8, ixa9, ixa10, ixa11, ixa12, ixa13, ixa14, ixa15, ixa16, ixa17, ixa18, ixa19, ixa20, l6_0, l6_1, l6_2, l6_3, l6_4, l6_5, l64_0, l64_1, l64_2, l64_3, bd_nI]
        have e13 : X 1 (9 * r + 6) = rowX X r 13 := rfl
        have e5 : X 0 (7 * r + 5) = rowX X r 5 := rfl
        rw [e13, e5]
        by_cases h : rowX X r 13 + 1 < rowX X r 5
        · rw [if_pos h, if_pos h]
        · rw [if_neg h, if_neg h]
    · rw [if_neg h2, if_neg h2, l_flag hc (by omega), obs]
      simp only [bit1]
      cases hf : flgR (rowX X r) with
      | true =>
        cases wn with
        | true => simp only [Bool.true_eq_false, if_false, if_true]
        | false =>
          simp only [Bool.true_eq_false, if_false, if_true, Bool.false_eq_true, obs, nI_1]
          exact l_nx343 hc hn hn6 hs hr (n - (r + 1)) (r + 1) FU (by omega) (by rw [FU_eq]; omega)
      | false => simp only [if_true, Bool.false_eq_true, if_false]
  · rw [if_neg (nI_pos hk), if_neg (nI_m1 hk)]
theorem l_nx104 (hc : CK G c) {n r : Nat} (hn : X 4 0 = nI n) (hn6 : n ≤ 6) {s : Nat → Nat} (hs : ∀ k, s k < 8) (hr : r < n) (wn dis : Bool) {bad : Int32} (hb : bad = -1 ∨ ∃ k, k < 2 ^ 31 ∧ bad = nI k) (h9 : nI (s r) = rowX X r 9) : b_L_next_104 (hl G c X) (nI r) (nI (okN s n)) 133 c (c + 3) (nI (9 * r)) bad (if wn = true then 1 else 0) (if dis = true then 1 else 0) = some (toC wn dis (flgR (rowX X r)) (restF (fun q => nI (s q)) (rowX X) (X 4 1) r (r + 1) (n - (r + 1))) bad r (rowX X r)) := by
  unfold b_L_next_104 b_L_next_131 b_L_next_180 b_L_next_179 b_L_next_206 b_L_next_228 b_L_next_227 b_L_next_180 b_L_next_228 toC
  rw [jx3, old_get hs hn6 hr, obs, h9]
  simp only [bit1]
  by_cases h0 : rowX X r 9 = 0
  · rw [if_pos h0, if_pos h0]
    cases wn <;> simp only [if_true, if_false, Bool.true_eq_false, Bool.false_eq_true]
  rw [if_neg h0, if_neg h0]
  by_cases h1 : rowX X r 9 = 1
  · rw [if_pos h1, if_pos h1]
    cases wn with
    | false => simp only [if_true, if_false, Bool.false_eq_true]
    | true =>
      cases dis with
      | false => simp only [if_true, if_false, Bool.true_eq_false, Bool.false_eq_true]
      | true =>
        simp only [if_true, if_false, Bool.true_eq_false]
        rcases hb with rfl | ⟨k, hk, rfl⟩
        · simp (disch := omega) only [m1_le, if_false, if_true, obs, l_a0 hc, l_a1 hc, l_a2 hc, l_a3 hc, l_a4 hc, l_s0 hc, l_s1 hc, l_s2 hc, l_s3 hc, l_s4 hc, jx9, jx7, jx3, ix4l, ixa0, ixa1, ixa2, ixa3, ixa4, ixa5, ixa6, ixa7, ixa8, ixa9, ixa10, ixa11, ixa12, ixa13, ixa14, ixa15, ixa16, ixa17, ixa18, ixa19, ixa20, l6_0, l6_1, l6_2, l6_3, l6_4, l6_5, l64_0, l64_1, l64_2, l64_3, bd_nI]
          have e13 : X 1 (9 * r + 6) = rowX X r 13 := rfl
          have e4 : X 0 (7 * r + 4) = rowX X r 4 := rfl
          rw [e13, e4]
          by_cases h : rowX X r 13 < rowX X r 4
          · rw [if_pos h, if_pos h]
          · rw [if_neg h, if_neg h]
        · rw [if_pos (nI_pos' hk), if_neg (nI_m1 hk)]
  rw [if_neg h1, if_neg h1]
  by_cases h4 : rowX X r 9 = 4
  · rw [if_pos h4, if_pos h4]
    cases dis <;> cases wn <;> simp only [if_true, if_false, Bool.true_eq_false, Bool.false_eq_true]
  rw [if_neg h4, if_neg h4]
  by_cases h5 : rowX X r 9 = 5
  · rw [if_pos h5, if_pos h5]
    cases dis <;> cases wn <;> simp only [if_true, if_false, Bool.true_eq_false, Bool.false_eq_true]
  rw [if_neg h5, if_neg h5]
  by_cases h2 : rowX X r 9 = 2
  · rw [if_pos h2, if_pos h2]
    cases wn with
    | false => simp only [if_true, if_false, Bool.false_eq_true]
    | true =>
      rw [if_neg (by decide), if_pos rfl]
      exact l_nx243 hc hn hn6 hs hr true hb rfl
  · rw [if_neg h2, if_neg h2]
    exact l_nx243 hc hn hn6 hs hr wn hb rfl
theorem l_nx69 (hc : CK G c) {n r : Nat} (hn : X 4 0 = nI n) (hn6 : n ≤ 6) {s : Nat → Nat} (hs : ∀ k, s k < 8) (hr : r < n) {w : Int32} (hw : wnX X w n) {bad : Int32} (hb : bad = -1 ∨ ∃ k, k < 2 ^ 31 ∧ bad = nI k) (h9 : nI (s r) = rowX X r 9) : b_L_next_69 (hl G c X) (nI r) (nI (okN s n)) 133 c (c + 3) (nI (9 * r)) bad = some (toC (tb w r) (!decide (X 4 1 < rowX X r 10)) (flgR (rowX X r)) (restF (fun q => nI (s q)) (rowX X) (X 4 1) r (r + 1) (n - (r + 1))) bad r (rowX X r)) := by
  have e84 : ∀ wn : Bool, b_L_next_84 (hl G c X) (nI r) (nI (okN s n)) 133 c (c + 3) (nI (9 * r)) bad (if wn = true then 1 else 0) = some (toC wn (!decide (X 4 1 < rowX X r 10)) (flgR (rowX X r)) (restF (fun q => nI (s q)) (rowX X) (X 4 1) r (r + 1) (n - (r + 1))) bad r (rowX X r)) := by
    intro wn
    have q1 : b_L_next_104 (hl G c X) (nI r) (nI (okN s n)) 133 c (c + 3) (nI (9 * r)) bad (if wn = true then 1 else 0) 1 = _ := l_nx104 hc hn hn6 hs hr wn true hb h9
    have q0 : b_L_next_104 (hl G c X) (nI r) (nI (okN s n)) 133 c (c + 3) (nI (9 * r)) bad (if wn = true then 1 else 0) 0 = _ := l_nx104 hc hn hn6 hs hr wn false hb h9
    unfold b_L_next_84
    rw [ixa3, l_a1 hc, bd_nI (by omega) (by decide), obs, l_a4 hc, l6_1, obs, q1, q0]
    have e10 : X 1 (9 * r + 3) = rowX X r 10 := rfl
    rw [e10]
    by_cases h : X 4 1 < rowX X r 10
    · rw [if_pos h, decide_eq_true h]; rfl
    · rw [if_neg h, decide_eq_false h]; rfl
  have e1 : b_L_next_84 (hl G c X) (nI r) (nI (okN s n)) 133 c (c + 3) (nI (9 * r)) bad 1 = _ := e84 true
  have e0 : b_L_next_84 (hl G c X) (nI r) (nI (okN s n)) 133 c (c + 3) (nI (9 * r)) bad 0 = _ := e84 false
  unfold b_L_next_69
  rw [ixa1, l_a1 hc, bd_nI (by omega) (by decide), obs, e1, e0, hw r hr]
  cases tb w r with
  | true => rw [if_pos rfl, if_pos rfl]
  | false =>
    rw [if_neg (show ¬ false = true from by decide)]
    exact if_neg (by decide)
theorem l_nxBad (hc : CK G c) {n r : Nat} {s : Nat → Nat} (hr : r < n) (hn6 : n ≤ 6) {j k fuel : Nat} (hj : j < 2 ^ 31) : f_L_next_12 (hl G c X) (fuel + 1) (nI r) (nI (okN s n)) 133 c (c + 3) (nI (9 * r)) (nI j) (nI k) = b_L_next_69 (hl G c X) (nI r) (nI (okN s n)) 133 c (c + 3) (nI (9 * r)) (nI j) := by
  show b_L_next_12 _ _ _ _ _ _ _ _ _ _ = _
  unfold b_L_next_12
  rw [if_pos (nI_pos' hj)]
  split <;> rfl
theorem l_nxLoop (hc : CK G c) {n r : Nat} (hn6 : n ≤ 6) {s : Nat → Nat} (hs : ∀ k, s k < 8) (hr : r < n) : ∀ (m k fuel : Nat), k + m = r → m + 1 < fuel → f_L_next_12 (hl G c X) fuel (nI r) (nI (okN s n)) 133 c (c + 3) (nI (9 * r)) (-1) (nI k) = b_L_next_69 (hl G c X) (nI r) (nI (okN s n)) 133 c (c + 3) (nI (9 * r)) (badF (fun q => nI (s q)) (rowX X) (rowX X r 7) k m) := by
  intro m
  induction m with
  | zero =>
    intro k fuel hk hf
    obtain ⟨fuel, rfl⟩ : ∃ f, fuel = f + 1 := ⟨fuel - 1, by omega⟩
    show b_L_next_12 _ _ _ _ _ _ _ _ _ _ = _
    unfold b_L_next_12
    rw [if_pos (nI_le (by omega) (by omega))]
    rfl
  | succ m ih =>
    intro k fuel hk hf
    obtain ⟨fuel, rfl⟩ : ∃ f, fuel = f + 2 := ⟨fuel - 2, by omega⟩
    have ih := ih (k + 1) (fuel + 1) (by omega) (by omega)
    have hkn : k < n := by omega
    have e59 : b_L_next_59 (hl G c X) (f_L_next_12 (hl G c X) (fuel + 1)) (nI r) (nI (okN s n)) 133 c (c + 3) (nI (9 * r)) (nI k) = b_L_next_69 (hl G c X) (nI r) (nI (okN s n)) 133 c (c + 3) (nI (9 * r)) (nI k) := by
      unfold b_L_next_59 b_L_next_63
      rw [nI_1]
      exact l_nxBad hc hr hn6 (by omega)
    show b_L_next_12 _ _ _ _ _ _ _ _ _ _ = _
    unfold b_L_next_12
    rw [if_neg (nI_ge (by omega) (by omega)), if_neg m1_le, l_a1 hc, bd_nI (by omega) (by decide), obs, jx3, old_get hs hn6 hkn, l_flag hc (by omega), e59]
    unfold b_L_next_63
    rw [nI_1, ih]
    have e7 : X 1 (9 * r) = rowX X r 7 := rfl
    rw [e7, badF_s]
    by_cases ht : tb (rowX X r 7) k = true
    · rw [if_pos ((tb_has _ (by omega)).2 ht)]
      by_cases h3 : nI (s k) = 3
      · rw [if_pos h3, obs]
        simp only [bit1]
        cases hf : flgR (rowX X k) with
        | true =>
          rw [if_neg (show ¬ true = false from by decide), if_neg]
          rintro ⟨-, h | h⟩
          · exact h h3
          · exact absurd h (by decide)
        | false => rw [if_pos rfl, if_pos ⟨ht, Or.inr rfl⟩]
      · rw [if_neg h3, if_pos ⟨ht, Or.inl h3⟩]
    · rw [if_neg (fun h => ht ((tb_has _ (by omega)).1 h)), if_neg (fun h => ht h.1)]
theorem l_next (hc : CK G c) {n r : Nat} (hn : X 4 0 = nI n) (hn6 : n ≤ 6) {s : Nat → Nat} (hs : ∀ k, s k < 8) (hr : r < n) {w : Int32} (hw : wnX X w n) (h9 : nI (s r) = rowX X r 9) : f_L_next (hl G c X) (nI r) (nI (okN s n)) 133 c (c + 3) = some (toC (tb w r) (!decide (X 4 1 < rowX X r 10)) (flgR (rowX X r)) (restF (fun q => nI (s q)) (rowX X) (X 4 1) r (r + 1) (n - (r + 1))) (badR (fun q => nI (s q)) (rowX X) r) r (rowX X r)) := by
  unfold f_L_next
  rw [jx9, obs]
  have e := l_nxLoop (X := X) hc hn6 hs hr r 0 FU (by omega) (by rw [FU_eq]; omega)
  rw [show nI 0 = (0 : Int32) from rfl] at e
  rw [e]
  refine l_nx69 hc hn hn6 hs hr hw ?_ h9
  rcases badF_ok (fun q => nI (s q)) (rowX X) (rowX X r 7) r 0 with h | ⟨j, h1, h2⟩
  · exact Or.inl h
  · exact Or.inr ⟨j, by omega, h2⟩
