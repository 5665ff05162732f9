/-! commands: restart -/
def tdR (wn : Bool) (row : Nat → Int32) : Bool := decide (row 9 = 2) || decide (row 9 = 3) || (decide (row 9 = 5) && wn)
def drR (c : Int32) (row : Nat → Int32) : Nat → Int32 := upd (upd (upd row 14 0) 15 c) 9 4
def drV (w g c : Int32) : Nat → Nat → (Nat → Nat → Int32) → Nat → Nat → Int32
  | 0, _, V => V
  | m + 1, k, V => drV w g c m (k + 1) (if (tb g k && tdR (tb w k) (V k)) = true then setRow V k (drR c (V k)) else V)
def drE (w g c : Int32) : Nat → Nat → (Nat → Nat → Int32) → List (Int32 × Int32 × Int32)
  | 0, _, _ => []
  | m + 1, k, V => if (tb g k && tdR (tb w k) (V k)) = true then (nI k, 4, c) :: drE w g c m (k + 1) (setRow V k (drR c (V k))) else drE w g c m (k + 1) V
theorem dr_congr (w g c : Int32) {n : Nat} : ∀ (m k : Nat) (V V' : Nat → Nat → Int32), k + m ≤ n → (∀ q, q < n → V q = V' q) → (∀ q, q < n → drV w g c m k V q = drV w g c m k V' q) ∧ drE w g c m k V = drE w g c m k V' := by
  intro m
  induction m with
  | zero => exact fun k V V' _ h => ⟨h, rfl⟩
  | succ m ih =>
    intro k V V' hk h
    unfold drV drE
    rw [h k (by omega)]
    by_cases hc : (tb g k && tdR (tb w k) (V' k)) = true
    · rw [if_pos hc, if_pos hc, if_pos hc, if_pos hc]
      have hs : ∀ q, q < n → setRow V k (drR c (V' k)) q = setRow V' k (drR c (V' k)) q := by
        intro q hq
        unfold setRow
        split
        · rfl
        · exact h q hq
      obtain ⟨i1, i2⟩ := ih (k + 1) _ _ (by omega) hs
      exact ⟨i1, by rw [i2]⟩
    · rw [if_neg hc, if_neg hc, if_neg hc, if_neg hc]
      exact ih (k + 1) V V' (by omega) h
theorem dr_ok {w g : Int32} {r n : Nat} : ∀ (m k : Nat) (V : Nat → Nat → Int32), r ≤ k → (∀ q, q < n → RowOK q (V q)) → ∀ q, q < n → RowOK q (drV w g (nI r) m k V q) := by
  intro m
  induction m with
  | zero => exact fun k V _ h => h
  | succ m ih =>
    intro k V hk h
    unfold drV
    refine ih (k + 1) _ (by omega) (fun q hq => ?_)
    split
    · unfold setRow
      split
      · next e =>
        subst e
        exact RowOK_9 (RowOK_15 (RowOK_o (h q hq) 0 (by omega)) (Or.inr ⟨r, hk, rfl⟩)) (by simp [st6])
      · exact h q hq
    · exact h q hq
theorem dr_19 {w g c : Int32} : ∀ (m k : Nat) (V : Nat → Nat → Int32) (q : Nat), drV w g c m k V q 19 = V q 19 := by
  intro m
  induction m with
  | zero => exact fun k V q => rfl
  | succ m ih =>
    intro k V q
    unfold drV
    rw [ih]
    split
    · unfold setRow
      split
      · next e =>
        subst e
        unfold drR
        rw [upd_n (by decide), upd_n (by decide), upd_n (by decide)]
      · rfl
    · rfl
variable {G : GB} {b : Nat} {P : PV}
theorem a_toDrop (hb : b ≤ 122) {r : Nat} (hr : r < 8) : f_X1_isToDrop (hp G b P) b (nI r) = some (if tdR (tb (P.1 3) r) (rowP P r) = true then 1 else 0) := by
  unfold f_X1_isToDrop b_X1_isToDrop_38 b_X1_isToDrop_42 b_X1_isToDrop_43 tdR
  rw [show rowP P r 9 = P.2 6 r from rfl, p_R6 hb, obs, p_a6 hb, bd_nI (by omega) (by decide), obs]
  by_cases h2 : P.2 6 r = 2
  · rw [if_pos h2, h2]
    rfl
  rw [if_neg h2, obs, p_a6 hb, bd_nI (by omega) (by decide), obs]
  by_cases h3 : P.2 6 r = 3
  · rw [if_pos h3, h3]
    rfl
  rw [if_neg h3, obs, p_a6 hb, bd_nI (by omega) (by decide), obs]
  by_cases h5 : P.2 6 r = 5
  · rw [if_pos h5, p_v1 hb, a_wanted hb hr, obs, h5]
    cases tb (P.1 3) r <;> rfl
  rw [if_neg h5]
  simp [h2, h3, h5, i01]
theorem a_dropLoop (hb : b ≤ 122) {n : Nat} (hn8 : n ≤ 8) (g c : Int32) : ∀ (m k fuel : Nat) (P : PV) (ch : Int32), P.1 0 = nI n → k + m = n → m < fuel →
    ∃ P', f_X1_dropForRestart_13 fuel (hp G b P) b c g ch (nI k) = some (ch + nI (drE (P.1 3) g c m k (rowP P)).length, hp G b P') ∧ rowP P' = drV (P.1 3) g c m k (rowP P) ∧ P'.1 0 = P.1 0 ∧ P'.1 1 = P.1 1 ∧ P'.1 2 = P.1 2 ∧ P'.1 3 = P.1 3 ∧ lgP P' = (drE (P.1 3) g c m k (rowP P)).foldl (pushL (P.1 1)) (lgP P) := by
  intro m
  induction m with
  | zero =>
    intro k fuel P ch hn hk hf
    obtain ⟨fuel, rfl⟩ : ∃ f, fuel = f + 1 := ⟨fuel - 1, by omega⟩
    refine ⟨P, ?_, rfl, rfl, rfl, rfl, rfl, rfl⟩
    show b_X1_dropForRestart_13 _ _ _ _ _ _ _ = _
    unfold b_X1_dropForRestart_13
    rw [p_I0 hb, obs, hn, if_pos (nI_le (by omega) (by omega))]
    simp [drE, nI_0]
  | succ m ih =>
    intro k fuel P ch hn hk hf
    obtain ⟨fuel, rfl⟩ : ∃ f, fuel = f + 1 := ⟨fuel - 1, by omega⟩
    have hk8 : k < 8 := by omega
    have e : f_X1_dropForRestart_13 (fuel + 1) (hp G b P) b c g ch (nI k) = if (tb g k && tdR (tb (P.1 3) k) (rowP P k)) = true then ((f_X1_become (hp G b (wA (wA P 12 k c) 11 k 0)) b (nI k) 4).bind fun h7 => f_X1_dropForRestart_13 fuel h7 b c g (ch + 1) (nI (k + 1))) else f_X1_dropForRestart_13 fuel (hp G b P) b c g ch (nI (k + 1)) := by
      show b_X1_dropForRestart_13 _ _ _ _ _ _ _ = _
      unfold b_X1_dropForRestart_13 b_X1_dropForRestart_66
      rw [p_I0 hb, obs, hn, if_neg (nI_ge (by omega) (by omega)), nI_1]
      rcases Bool.eq_false_or_eq_true (tb g k) with hg | hg
      · rw [if_neg (by rw [tb_and _ (by omega), hg]; decide), p_v1 hb, a_toDrop hb hk8, obs, hg, Bool.true_and]
        by_cases ht : tdR (tb (P.1 3) k) (rowP P k) = true
        · rw [if_pos ht, if_pos ht, if_neg n10, p_R12 hb, obs, p_s12 hb, bd_nI (by omega) (by decide), obs, p_R11 hb, obs, p_s11 hb, bd_nI (by omega) (by decide), obs, p_v1 hb]
        · rw [if_neg ht, if_neg ht, if_pos rfl]
      · rw [if_pos (by rw [tb_and _ (by omega)]; exact hg), hg, Bool.false_and, if_neg (by decide)]
    rw [e]
    unfold drV drE
    by_cases hc : (tb g k && tdR (tb (P.1 3) k) (rowP P k)) = true
    · rw [if_pos hc, if_pos hc, if_pos hc]
      obtain ⟨P3, b1, b2, b3, b4, b5⟩ := a_become (G := G) (P := wA (wA P 12 k c) 11 k 0) hb hk8 4
      have eQ : rowP (wA (wA P 12 k c) 11 k 0) = setRow (rowP P) k (upd (upd (rowP P k) 15 c) 14 0) := by
        rw [rw_14, rw_15, sr_at, sr_sr]
      rw [eQ, sr_at, sr_sr] at b2
      have b2' : rowP P3 = setRow (rowP P) k (drR c (rowP P k)) := by
        rw [b2]
        unfold drR becR
        rw [if_neg (by decide), if_neg (by decide), upd_comm _ (show 15 ≠ 14 by decide)]
      have s0 : P3.1 0 = P.1 0 := by rw [b3]; rfl
      have s1 : P3.1 1 = P.1 1 := by rw [b3]; rfl
      have s2 : P3.1 2 = P.1 2 := by rw [b3]; rfl
      have s3 : P3.1 3 = P.1 3 := by rw [b3]; rfl
      obtain ⟨P2, k1, k2, k3, k4, k5, k6, k7⟩ := ih (k + 1) fuel P3 (ch + 1) (by rw [s0]; exact hn) (by omega) (by omega)
      rw [s3, b2'] at k1 k2 k7
      refine ⟨P2, ?_, k2, k3.trans s0, k4.trans s1, k5.trans s2, k6.trans s3, ?_⟩
      · rw [b1, obs, k1, List.length_cons, ← nI_1, Int32.add_comm (nI _) 1, Int32.add_assoc]
      · rw [k7, List.foldl_cons, s1]
        congr 1
        unfold lgP pushL
        rw [b3, b4, eQ, sr_at, upd_n (show 15 ≠ 14 by decide), upd_s]
        rfl
    · rw [if_neg hc, if_neg hc, if_neg hc]
      exact ih (k + 1) fuel P ch hn (by omega) (by omega)
theorem fo_bit {nd : Nat → Int32} {r n : Nat} (hr : r < n) (hn8 : n ≤ 8) : (foF nd n 0 ((1 : Int32) <<< (nI r &&& 31))).toBitVec.toNat < 256 ∧ tb (foF nd n 0 ((1 : Int32) <<< (nI r &&& 31))) r = true := by
  have hlt : ((1 : Int32) <<< (nI r &&& 31)).toBitVec.toNat < 2 ^ n := by
    have h1 : 2 ^ r < 2 ^ n := Nat.pow_lt_pow_right (by decide) (by omega)
    have h2 : 2 ^ n ≤ 2 ^ 8 := Nat.pow_le_pow_right (by decide) hn8
    rw [nI_bit (by omega), pk_tn (by omega)]
    exact h1
  have h2 : 2 ^ n ≤ 256 := Nat.pow_le_pow_right (n := 2) (i := n) (j := 8) (by decide) hn8
  refine ⟨Nat.lt_of_lt_of_le (fo_lt hn8 n 0 _ (by omega) hlt) h2, fo_keep n 0 _ r ?_⟩
  rw [tb_bit (by omega)]
  exact decide_eq_true rfl
variable {T : TS}
