/-! a tick: what it does to the rows, which entries it makes -/
def stepT (S : Nat → Int32) (V : Nat → Nat → Int32) (w res : Int32) (n r : Nat) : Int32 × (Nat → Int32) :=
  nsR (tb w r) (!decide (res < V r 10)) (flgR (V r)) (restF S V res r (r + 1) (n - (r + 1))) (badR S V r) r (V r)
def lookR (S : Nat → Int32) (V : Nat → Nat → Int32) (w res : Int32) (n r : Nat) : Nat → Int32 :=
  if (stepT S V w res n r).1 = V r 9 then (stepT S V w res n r).2 else becR (stepT S V w res n r).1 (stepT S V w res n r).2
def entR (S : Nat → Int32) (V : Nat → Nat → Int32) (w res : Int32) (n r : Nat) : List (Int32 × Int32 × Int32) :=
  if (stepT S V w res n r).1 = V r 9 then [] else [(nI r, (stepT S V w res n r).1, (stepT S V w res n r).2 15)]
def entF (S : Nat → Int32) (V : Nat → Nat → Int32) (w res : Int32) (n : Nat) : Nat → Nat → List (Int32 × Int32 × Int32)
  | _, 0 => []
  | r, m + 1 => entR S V w res n r ++ entF S V w res n (r + 1) m
abbrev LG : Type := Int32 × (Nat → Int32)
def lgP (P : PV) : LG := (P.1 4, P.2 14)
def pushL (t : Int32) (l : LG) (e : Int32 × Int32 × Int32) : LG := (mmin (l.1 + 1) 16, logIn l.2 t e.1 e.2.1 e.2.2)
def rowsT (F : Nat → (Nat → Int32)) (V : Nat → Nat → Int32) (r : Nat) : Nat → Nat → Int32 := fun q => if q < r then F q else V q
theorem rowsT_0 (F : Nat → (Nat → Int32)) (V : Nat → Nat → Int32) : rowsT F V 0 = V := by
  funext q
  unfold rowsT
  rw [if_neg (by omega)]
theorem rowsT_s (F : Nat → (Nat → Int32)) (V : Nat → Nat → Int32) (r : Nat) : setRow (rowsT F V r) r (F r) = rowsT F V (r + 1) := by
  funext q
  unfold rowsT setRow
  by_cases h : q = r
  · subst h
    rw [if_pos rfl]
    exact (if_pos (show q < q + 1 by omega)).symm
  · rw [if_neg h]
    by_cases h2 : q < r
    · exact (if_pos h2).trans (if_pos (show q < r + 1 by omega)).symm
    · exact (if_neg h2).trans (if_neg (show ¬ q < r + 1 by omega)).symm
theorem rowsT_at (F : Nat → (Nat → Int32)) (V : Nat → Nat → Int32) (r : Nat) : rowsT F V r r = V r := by
  unfold rowsT
  rw [if_neg (by omega)]
theorem failR_keep (r : Nat) (row : Nat → Int32) (k : Nat) (h14 : k ≠ 14) (h15 : k ≠ 15) (h18 : k ≠ 18) : (failR r row).2 k = row k := by
  simp [failR, upd, h14, h15, h18]
theorem nsR_keep (wn dis flag rest : Bool) (bad : Int32) (r : Nat) (row : Nat → Int32) (k : Nat) (h13 : k ≠ 13) (h14 : k ≠ 14) (h15 : k ≠ 15) (h18 : k ≠ 18) : (nsR wn dis flag rest bad r row).2 k = row k := by
  unfold nsR
  repeat' split
  all_goals simp only [failR_keep r _ k h14 h15 h18, upd, h13, h14, h15, if_false]
theorem becR_keep (s : Int32) (row : Nat → Int32) (k : Nat) (h9 : k ≠ 9) (h16 : k ≠ 16) (h17 : k ≠ 17) : becR s row k = row k := by
  unfold becR
  repeat' split
  all_goals simp only [upd, h9, h16, h17, if_false]
theorem lookR_keep (S : Nat → Int32) (V : Nat → Nat → Int32) (w res : Int32) (n r k : Nat) (h : k < 9 ∨ k = 10 ∨ k = 11 ∨ k = 12 ∨ k = 19) : lookR S V w res n r k = V r k := by
  unfold lookR stepT
  have h2 := fun wn dis flag rest bad => nsR_keep wn dis flag rest bad r (V r) k (by omega) (by omega) (by omega) (by omega)
  split
  · exact h2 _ _ _ _ _
  · rw [becR_keep _ _ _ (by omega) (by omega) (by omega)]
    exact h2 _ _ _ _ _
theorem flgR_congr {a c : Nat → Int32} (h : ∀ k, k = 0 ∨ k = 3 ∨ k = 10 ∨ k = 11 → a k = c k) : flgR a = flgR c := by
  unfold flgR
  rw [h 0 (by simp), h 3 (by simp), h 10 (by simp), h 11 (by simp)]
theorem badF_congr {S S' : Nat → Int32} {V V' : Nat → Nat → Int32} (nd : Int32) : ∀ (m lo : Nat), (∀ q, lo ≤ q → q < lo + m → S q = S' q ∧ flgR (V q) = flgR (V' q)) → badF S V nd lo m = badF S' V' nd lo m := by
  intro m
  induction m with
  | zero => intro lo _; rfl
  | succ m ih =>
    intro lo h
    unfold badF
    rw [ih (lo + 1) (fun q h1 h2 => h q (by omega) (by omega)), (h lo (by omega) (by omega)).1, (h lo (by omega) (by omega)).2]
theorem restF_congr {S S' : Nat → Int32} {V V' : Nat → Nat → Int32} (res : Int32) (r : Nat) : ∀ (m lo : Nat), (∀ q, lo ≤ q → q < lo + m → S q = S' q ∧ V q 7 = V' q 7 ∧ V q 10 = V' q 10) → restF S V res r lo m = restF S' V' res r lo m := by
  intro m
  induction m with
  | zero => intro lo _; rfl
  | succ m ih =>
    intro lo h
    unfold restF
    obtain ⟨h1, h2, h3⟩ := h lo (by omega) (by omega)
    rw [ih (lo + 1) (fun q h1 h2 => h q (by omega) (by omega)), h1, h2, h3]
/-- a step speaks of the rows as they stood before the first -/
theorem stepT_mid (S : Nat → Int32) (V : Nat → Nat → Int32) (w res : Int32) (n r : Nat) (F : Nat → (Nat → Int32)) (hF : ∀ q k, k < 9 ∨ k = 10 ∨ k = 11 ∨ k = 12 ∨ k = 19 → F q k = V q k) : stepT S (rowsT F V r) w res n r = stepT S V w res n r := by
  have hk : ∀ q k, k < 9 ∨ k = 10 ∨ k = 11 ∨ k = 12 ∨ k = 19 → rowsT F V r q k = V q k := by
    intro q k h
    unfold rowsT
    split
    · exact hF q k h
    · rfl
  unfold stepT
  rw [rowsT_at]
  have e1 : badR S (rowsT F V r) r = badR S V r := by
    unfold badR
    rw [rowsT_at]
    exact badF_congr _ _ _ (fun q _ _ => ⟨rfl, flgR_congr (fun k h => hk q k (by omega))⟩)
  have e2 : restF S (rowsT F V r) res r (r + 1) (n - (r + 1)) = restF S V res r (r + 1) (n - (r + 1)) := restF_congr _ _ _ _ (fun q _ _ => ⟨rfl, hk q 7 (by omega), hk q 10 (by omega)⟩)
  rw [e1, e2]
variable {G : GB} {b : Nat}
theorem a_tickLoop (hb : b ≤ 122) {n : Nat} (hn8 : n ≤ 8) (V : Nat → Nat → Int32) : ∀ (m r fuel : Nat) (P : PV) (ch : Int32), P.1 0 = nI n → rowP P = rowsT (lookR (P.2 15) V (P.1 3) (P.1 2) n) V r → r + m = n → m < fuel →
    ∃ P', f_X1_passTick_12 fuel (hp G b P) b ch (nI r) = some (ch + nI (entF (P.2 15) V (P.1 3) (P.1 2) n r m).length, hp G b P') ∧ rowP P' = rowsF (fun _ => endR) (rowsT (lookR (P.2 15) V (P.1 3) (P.1 2) n) V n) 0 n ∧ P'.1 0 = P.1 0 ∧ P'.1 1 = P.1 1 + 1 ∧ P'.1 2 = P.1 2 ∧ P'.1 3 = P.1 3 ∧ lgP P' = (entF (P.2 15) V (P.1 3) (P.1 2) n r m).foldl (pushL (P.1 1)) (lgP P) ∧ ∀ k, 15 ≤ k → P'.2 k = P.2 k := by
  intro m
  induction m with
  | zero =>
    intro r fuel P ch hn hV hk hf
    obtain ⟨fuel, rfl⟩ : ∃ f, fuel = f + 1 := ⟨fuel - 1, by omega⟩
    obtain rfl : r = n := by omega
    obtain ⟨P1, g1, g2, g3, g4⟩ := a_end (G := G) (P := P) hb hn8 hn
    refine ⟨P1, ?_, by rw [g2, hV], by rw [g3]; rfl, by rw [g3]; rfl, by rw [g3]; rfl, by rw [g3]; rfl, ?_, fun k hk => g4 k (by omega) (by omega)⟩
    · show b_X1_passTick_12 _ _ _ _ _ = _
      unfold b_X1_passTick_12
      simp only [Option.bind_some, p_I0 hb, p_I1 hb, p_I2 hb, p_I3 hb, p_R4 hb, p_R5 hb, p_R6 hb, p_R7 hb, p_R8 hb, p_R9 hb, p_R10 hb, p_R11 hb, p_R12 hb, p_R13 hb, p_R14 hb, p_R15 hb, p_R16 hb, p_R17 hb, p_Rl hb, p_Il hb, p_v1 hb, p_v0 hb, p_a4 hb, p_a5 hb, p_a6 hb, p_a7 hb, p_a8 hb, p_a9 hb, p_a10 hb, p_a11 hb, p_a12 hb, p_a13 hb, p_a14 hb, p_a15 hb, p_a16 hb, p_a17 hb, p_s4 hb, p_s5 hb, p_s6 hb, p_s7 hb, p_s8 hb, p_s9 hb, p_s10 hb, p_s11 hb, p_s12 hb, p_s13 hb, p_s14 hb, p_s15 hb, p_s16 hb, p_s17 hb, p_P0 hb, p_P1 hb, p_P2 hb, p_P3 hb, p_Pl hb, wS_1, wS_2, wA_1, wA_2, wR_1, wR_2, hn]
      rw [if_pos (nI_le (by omega) (by omega)), g1]
      simp [entF, nI_0]
    · simp only [entF, List.foldl_nil, lgP]
      rw [g3, g4 14 (by omega) (by omega)]
      rfl
  | succ m ih =>
    intro r fuel P ch hn hV hk hf
    obtain ⟨fuel, rfl⟩ : ∃ f, fuel = f + 1 := ⟨fuel - 1, by omega⟩
    have hr8 : r < 8 := by omega
    obtain ⟨P1, g1, g2, g3, g4⟩ := a_nextState (G := G) (P := P) hb (r := r) (n := n) (by omega) hn hn8
    have hkeep := fun q k h => lookR_keep (P.2 15) V (P.1 3) (P.1 2) n q k h
    have hst : nsR (tb (P.1 3) r) (!decide (P.1 2 < rowP P r 10)) (flgR (rowP P r)) (restF (P.2 15) (rowP P) (P.1 2) r (r + 1) (n - (r + 1))) (badR (P.2 15) (rowP P) r) r (rowP P r) = stepT (P.2 15) V (P.1 3) (P.1 2) n r := by
      have := stepT_mid (P.2 15) V (P.1 3) (P.1 2) n r (lookR (P.2 15) V (P.1 3) (P.1 2) n) hkeep
      rw [← hV] at this
      exact this
    rw [hst] at g1 g2
    have h6 : P1.2 6 r = V r 9 := by
      have e : rowP P1 r 9 = (stepT (P.2 15) V (P.1 3) (P.1 2) n r).2 9 := by rw [g2, sr_at]
      have e2 : (stepT (P.2 15) V (P.1 3) (P.1 2) n r).2 9 = V r 9 := nsR_keep _ _ _ _ _ _ _ _ (by omega) (by omega) (by omega) (by omega)
      exact e.trans e2
    have h15 : ∀ k, 14 ≤ k → P1.2 k = P.2 k := fun k hk => g4 k (by omega) (by omega) (by omega) (by omega)
    have hwhole : f_X1_passTick_12 (fuel + 1) (hp G b P) b ch (nI r) = if (stepT (P.2 15) V (P.1 3) (P.1 2) n r).1 = V r 9 then f_X1_passTick_12 fuel (hp G b P1) b ch (nI (r + 1)) else ((f_X1_become (hp G b P1) b (nI r) (stepT (P.2 15) V (P.1 3) (P.1 2) n r).1).bind fun h6 => f_X1_passTick_12 fuel h6 b (ch + 1) (nI (r + 1))) := by
      show b_X1_passTick_12 _ _ _ _ _ = _
      unfold b_X1_passTick_12
      simp (disch := omega) only [Option.bind_some, p_I0 hb, p_I1 hb, p_I2 hb, p_I3 hb, p_R4 hb, p_R5 hb, p_R6 hb, p_R7 hb, p_R8 hb, p_R9 hb, p_R10 hb, p_R11 hb, p_R12 hb, p_R13 hb, p_R14 hb, p_R15 hb, p_R16 hb, p_R17 hb, p_Rl hb, p_Il hb, p_v1 hb, p_v0 hb, p_a4 hb, p_a5 hb, p_a6 hb, p_a7 hb, p_a8 hb, p_a9 hb, p_a10 hb, p_a11 hb, p_a12 hb, p_a13 hb, p_a14 hb, p_a15 hb, p_a16 hb, p_a17 hb, p_s4 hb, p_s5 hb, p_s6 hb, p_s7 hb, p_s8 hb, p_s9 hb, p_s10 hb, p_s11 hb, p_s12 hb, p_s13 hb, p_s14 hb, p_s15 hb, p_s16 hb, p_s17 hb, p_P0 hb, p_P1 hb, p_P2 hb, p_P3 hb, p_Pl hb, wS_1, wS_2, wA_1, wA_2, wR_1, wR_2, hn, g1, b_X1_passTick_45, bd_nI, h6, nI_1]
      rw [if_neg (nI_ge (by omega) (by omega))]
    rw [hwhole]
    by_cases hc : (stepT (P.2 15) V (P.1 3) (P.1 2) n r).1 = V r 9
    · rw [if_pos hc]
      have hrow : rowP P1 = rowsT (lookR (P1.2 15) V (P1.1 3) (P1.1 2) n) V (r + 1) := by
        rw [h15 15 (by omega), g3, ← rowsT_s, g2, hV]
        congr 1
        unfold lookR
        rw [if_pos hc]
      obtain ⟨P2, k1, k2, k3, k4, k5, k6, k7, k8⟩ := ih (r + 1) fuel P1 ch (by rw [g3]; exact hn) hrow (by omega) (by omega)
      rw [h15 15 (by omega), g3] at k1 k2 k7
      rw [g3] at k3 k4 k5 k6
      have hent : entF (P.2 15) V (P.1 3) (P.1 2) n r (m + 1) = entF (P.2 15) V (P.1 3) (P.1 2) n (r + 1) m := by
        show entR _ _ _ _ _ _ ++ _ = _
        unfold entR
        rw [if_pos hc]
        rfl
      refine ⟨P2, by rw [k1, hent], k2, k3, k4, k5, k6, ?_, fun k hk => (k8 k hk).trans (h15 k (by omega))⟩
      rw [k7, hent]
      unfold lgP
      rw [g3, h15 14 (by omega)]
    · rw [if_neg hc]
      obtain ⟨P3, b1, b2, b3, b4, b5⟩ := a_become (G := G) (P := P1) hb hr8 (stepT (P.2 15) V (P.1 3) (P.1 2) n r).1
      have h15' : ∀ k, 15 ≤ k → P3.2 k = P.2 k := fun k hk => (b5 k (by omega) (by omega) (by omega)).trans (h15 k (by omega))
      have s0 : P3.1 0 = P.1 0 := by rw [b3]; show P1.1 0 = _; rw [g3]
      have s1 : P3.1 1 = P.1 1 := by rw [b3]; show P1.1 1 = _; rw [g3]
      have s2 : P3.1 2 = P.1 2 := by rw [b3]; show P1.1 2 = _; rw [g3]
      have s3 : P3.1 3 = P.1 3 := by rw [b3]; show P1.1 3 = _; rw [g3]
      have hrow : rowP P3 = rowsT (lookR (P3.2 15) V (P3.1 3) (P3.1 2) n) V (r + 1) := by
        rw [h15' 15 (by omega), s2, s3, ← rowsT_s, b2, g2, sr_sr, sr_at, hV]
        congr 1
        unfold lookR
        rw [if_neg hc]
      obtain ⟨P2, k1, k2, k3, k4, k5, k6, k7, k8⟩ := ih (r + 1) fuel P3 (ch + 1) (by rw [s0]; exact hn) hrow (by omega) (by omega)
      rw [h15' 15 (by omega), s2, s3] at k1 k2 k7
      rw [s0] at k3
      rw [s1] at k4 k7
      rw [s2] at k5
      rw [s3] at k6
      have hent : entF (P.2 15) V (P.1 3) (P.1 2) n r (m + 1) = (nI r, (stepT (P.2 15) V (P.1 3) (P.1 2) n r).1, (stepT (P.2 15) V (P.1 3) (P.1 2) n r).2 15) :: entF (P.2 15) V (P.1 3) (P.1 2) n (r + 1) m := by
        show entR _ _ _ _ _ _ ++ _ = _
        unfold entR
        rw [if_neg hc]
        rfl
      refine ⟨P2, ?_, k2, k3, k4, k5, k6, ?_, fun k hk => (k8 k hk).trans (h15' k hk)⟩
      · rw [b1, Option.bind_some, k1, hent, List.length_cons]
        congr 2
        rw [← nI_1, Int32.add_assoc, Int32.add_comm 1]
      · rw [k7, hent, List.foldl_cons]
        congr 1
        unfold lgP pushL
        rw [b3, b4, g3, h15 14 (by omega), g2, sr_at]
        rfl
/-- the rows behind a tick -/
def tkV (V : Nat → Nat → Int32) (w res : Int32) (n : Nat) : Nat → Nat → Int32 := rowsF (fun _ => endR) (rowsT (lookR (fun q => V q 9) (rowsF (fun _ => mvR) V 0 n) w res n) (rowsF (fun _ => mvR) V 0 n) n) 0 n
def tkE (V : Nat → Nat → Int32) (w res : Int32) (n : Nat) : List (Int32 × Int32 × Int32) := entF (fun q => V q 9) (rowsF (fun _ => mvR) V 0 n) w res n 0 n

