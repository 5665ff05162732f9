/-! what a short would do -/
/-- the rails that have just become falling or failed -/
def jdF (A B : Nat → Nat → Int32) : Nat → Nat → Int32 → Int32
  | 0, _, x => x
  | m + 1, k, x => jdF A B m (k + 1) (if (A k 9 = 4 ∨ A k 9 = 5) ∧ ¬ A k 9 = B k 9 then x ||| ((1 : Int32) <<< (nI k &&& 31)) else x)
theorem jd_or {A B : Nat → Nat → Int32} : ∀ (m k : Nat) (x y : Int32), jdF A B m k (x ||| y) = x ||| jdF A B m k y := by
  intro m
  induction m with
  | zero => exact fun _ _ _ => rfl
  | succ m ih =>
    intro k x y
    unfold jdF
    by_cases h : (A k 9 = 4 ∨ A k 9 = 5) ∧ ¬ A k 9 = B k 9
    · rw [if_pos h, if_pos h, Int32.or_assoc, ih]
    · rw [if_neg h, if_neg h, ih]
theorem jd_congr {A A' B B' : Nat → Nat → Int32} {n : Nat} (hA : ∀ q, q < n → A q 9 = A' q 9) (hB : ∀ q, q < n → B q 9 = B' q 9) : ∀ (m k : Nat) (x : Int32), k + m ≤ n → jdF A B m k x = jdF A' B' m k x := by
  intro m
  induction m with
  | zero => exact fun _ _ _ => rfl
  | succ m ih =>
    intro k x hk
    unfold jdF
    rw [hA k (by omega), hB k (by omega)]
    exact ih (k + 1) _ (by omega)
theorem I32_or0 (x : Int32) : x ||| (0 : Int32) = x := by
  apply Int32.toBitVec_inj.1
  show x.toBitVec ||| 0#32 = x.toBitVec
  simp
theorem st6_45 {x : Int32} (h : st6 x) : (¬ x < 4) ↔ (x = 4 ∨ x = 5) := by
  rcases h with h | h | h | h | h | h <;> rw [h] <;> decide
/-- the entries of a tick tell the same -/
theorem fal_jd {S : Nat → Int32} {V V' : Nat → Nat → Int32} {w res : Int32} {n : Nat} (hs : ∀ q, q < n → st6 (stepT S V w res n q).1 ∧ V' q 9 = (stepT S V w res n q).1) : ∀ (m k : Nat) (x : Int32), k + m ≤ n → (entF S V w res n k m).foldl falE x = jdF V' V m k x := by
  intro m
  induction m with
  | zero => exact fun _ _ _ => rfl
  | succ m ih =>
    intro k x hk
    obtain ⟨h1, h2⟩ := hs k (by omega)
    show (entR S V w res n k ++ entF S V w res n (k + 1) m).foldl falE x = _
    unfold entR jdF
    rw [h2]
    by_cases hc : (stepT S V w res n k).1 = V k 9
    · rw [if_pos hc, if_neg (fun hh => hh.2 hc)]
      exact ih (k + 1) x (by omega)
    · rw [if_neg hc]
      show (entF S V w res n (k + 1) m).foldl falE (falE x (nI k, (stepT S V w res n k).1, (stepT S V w res n k).2 15)) = _
      rw [ih (k + 1) _ (by omega)]
      unfold falE
      by_cases h4 : (stepT S V w res n k).1 < 4
      · rw [if_pos h4, if_neg (fun hh => ((st6_45 h1).mpr hh.1) h4), I32_or0]
      · rw [if_neg h4, if_pos ⟨(st6_45 h1).mp h4, hc⟩]
theorem step_ok {S : Nat → Int32} {V : Nat → Nat → Int32} {w res : Int32} {n r : Nat} (h : RowOK r (V r)) : st6 (stepT S V w res n r).1 := by
  have hb : badR S V r = -1 ∨ ∃ k, k ≤ r ∧ badR S V r = nI k := by
    rcases badF_ok S V (V r 7) r 0 with h | ⟨j, h1, h2⟩
    · exact Or.inl h
    · exact Or.inr ⟨j, by omega, h2⟩
  exact (nsR_ok (tb w r) (!decide (res < V r 10)) (flgR (V r)) (restF S V res r (r + 1) (n - (r + 1))) h hb).1
/-- what the model notes in a tick is what the class sees behind it -/
theorem fal_tick {n : Nat} {P P' : PV} (hok : ∀ q, q < n → RowOK q (rowP P q)) (hp : PT n P P') (x : Int32) : (tkE (rowP P) (P.1 3) (P.1 2) n).foldl falE x = jdF (rowP P') (rowP P) n 0 x := by
  have h := fal_jd (S := fun q => rowP P q 9) (V := rowsF (fun _ => mvR) (rowP P) 0 n) (V' := rowP P') (w := P.1 3) (res := P.1 2) (n := n) (fun q hq => ⟨step_ok (by rw [rowsF_in hq]; exact mvR_ok (hok q hq)), by rw [hp.1 q hq, tk9 hq]⟩) n 0 x (by omega)
  refine Eq.trans h (jd_congr (n := n) (fun _ _ => rfl) (fun q hq => ?_) n 0 x (by omega))
  rw [rowsF_in hq, mvR_keep _ (by decide)]
variable {G : GB} {b : Nat}
theorem a_justLoop (hb : b ≤ 122) {P : PV} {n : Nat} (hn8 : n ≤ 8) (h0 : P.1 0 = nI n) : ∀ (m k fuel : Nat) (x : Int32), k + m = n → m < fuel → f_X1_justDropped_4 (hp G b P) fuel b x (nI k) = some (jdF (rowP P) (bfR P) m k x) := by
  intro m
  induction m with
  | zero =>
    intro k fuel x hk hf
    obtain ⟨fuel, rfl⟩ : ∃ f, fuel = f + 1 := ⟨fuel - 1, by omega⟩
    show b_X1_justDropped_4 _ _ _ _ _ = _
    unfold b_X1_justDropped_4
    rw [p_I0 hb, obs, h0, if_pos (nI_le (by omega) (by omega))]
    rfl
  | succ m ih =>
    intro k fuel x hk hf
    obtain ⟨fuel, rfl⟩ : ∃ f, fuel = f + 1 := ⟨fuel - 1, by omega⟩
    have e37 : b_X1_justDropped_37 (hp G b P) (f_X1_justDropped_4 (hp G b P) fuel) b x (nI k) 1 = some (jdF (rowP P) (bfR P) m (k + 1) (if ¬ P.2 6 k = P.2 15 k then x ||| ((1 : Int32) <<< (nI k &&& 31)) else x)) := by
      unfold b_X1_justDropped_37 b_X1_justDropped_63
      rw [if_neg n10, p_R6 hb, obs, p_a6 hb, bd_nI (by omega) (by decide), obs, p_R15 hb, obs, p_a15 hb, bd_nI (by omega) (by decide), obs, nI_1]
      by_cases hc : P.2 6 k = P.2 15 k
      · rw [if_pos hc, if_neg (fun hh => hh hc)]
        exact ih (k + 1) fuel x (by omega) (by omega)
      · rw [if_neg hc, if_pos hc, obs]
        exact ih (k + 1) fuel _ (by omega) (by omega)
    show b_X1_justDropped_4 _ _ _ _ _ = _
    unfold b_X1_justDropped_4 b_X1_justDropped_32 jdF
    rw [p_I0 hb, obs, h0, if_neg (nI_ge (by omega) (by omega)), p_R6 hb, obs, p_a6 hb, bd_nI (by omega) (by decide), obs]
    by_cases h4 : P.2 6 k = 4
    · rw [if_pos h4, e37]
      by_cases hc : P.2 6 k = P.2 15 k
      · rw [if_neg (fun hh => hh hc), if_neg (fun hh => hh.2 hc)]
      · rw [if_pos hc, if_pos ⟨Or.inl h4, hc⟩]
    · rw [if_neg h4, obs, p_a6 hb, bd_nI (by omega) (by decide), obs]
      by_cases h5 : P.2 6 k = 5
      · rw [if_pos h5, e37]
        by_cases hc : P.2 6 k = P.2 15 k
        · rw [if_neg (fun hh => hh hc), if_neg (fun hh => hh.2 hc)]
        · rw [if_pos hc, if_pos ⟨Or.inr h5, hc⟩]
      · rw [if_neg h5, if_neg (fun hh => hh.1.elim h4 h5)]
        unfold b_X1_justDropped_37 b_X1_justDropped_63
        rw [if_pos rfl, nI_1]
        exact ih (k + 1) fuel x (by omega) (by omega)
variable {T : TS}
theorem f_just (T : TS) {P Q : PV} {n : Nat} (hn8 : n ≤ 8) (h0 : P.1 0 = nI n) (hp : PT n P Q) : f_X1_justDropped (HT (uP T 1 Q)) 17 = some (jdF (rowP Q) (rowP P) n 0 0) := by
  rw [HT1 (uP T 1 Q), uP_at]
  have e := a_justLoop (G := gT (uP T 1 Q)) (b := 17) (by decide) (P := Q) hn8 (hp.2.1.trans h0) n 0 FU 0 (by omega) (by rw [FU_eq]; omega)
  rw [jd_congr (A := rowP Q) (A' := rowP Q) (B := bfR Q) (B' := rowP P) (n := n) (fun _ _ => rfl) (fun q hq => (hp.2.2.2.2.2.2 q (by omega)).1) n 0 0 (by omega)] at e
  exact e
def shA (P : PV) (n : Nat) (d what : Int32) : Int32 := if what = 0 then d else if what = 1 then maS (rowP P) 3 n else maS (rowP P) 5 n
theorem f_R9 (T : TS) : hR (HT T) 1 17 9 = some 23 := t_pR9 T (j := 1) (by decide)
theorem f_s9 (T : TS) (Q : PV) {r : Nat} (hr : r < 8) (x : Int32) : sI (HT (uP T 1 Q)) 23 (nI r) x = some (HT (uP T 1 (wA Q 9 r x))) := by
  rw [HT1 (uP T 1 Q), uP_at, p_s9 (b := 17) (by decide), bd_nI (by omega) (by decide), hp1, uP_uP]
