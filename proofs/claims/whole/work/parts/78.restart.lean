/-! commands: restart -/
def tdR (wn : Bool) (row : Nat → Int32) : Bool := decide (row 9 = 2) || decide (row 9 = 3) || (decide (row 9 = 5) && wn)
def drR (c : Int32) (row : Nat → Int32) : Nat → Int32 := upd (upd (upd row 14 0) 15 c) 9 4
def drV (w g c : Int32) : Nat → Nat → (Nat → Nat → Int32) → Nat → Nat → Int32
  | 0, _, V => V
  | m + 1, k, V => drV w g c m (k + 1) (if (tb g k && tdR (tb w k) (V k)) = true then setRow V k (drR c (V k)) else V)
def drE (w g c : Int32) : Nat → Nat → (Nat → Nat → Int32) → List (Int32 × Int32 × Int32)
  | 0, _, _ => []
  | m + 1, k, V => if (tb g k && tdR (tb w k) (V k)) = true then (nI k, 4, c) :: drE w g c m (k + 1) (setRow V k (drR c (V k))) else drE w g c m (k + 1) V
theorem dr_congr (w g c : Int32) {n : Nat} : ∀ (m k : Nat) (V V' : Nat → Nat → Int32), k + m ≤ n → (∀ q, q < n → V q = V' q) → (∀ q, q < n → drV w g c m k V q = drV w g c m k V' q) ∧ drE w g c m k V = drE w g c m k V' := by
  intro m
  induction m with
  | zero => exact fun k V V' _ h => ⟨h, rfl⟩
  | succ m ih =>
    intro k V V' hk h
    unfold drV drE
    rw [h k (by omega)]
    by_cases hc : (tb g k && tdR (tb w k) (V' k)) = true
    · rw [if_pos hc, if_pos hc, if_pos hc, if_pos hc]
      have hs : ∀ q, q < n → setRow V k (drR c (V' k)) q = setRow V' k (drR c (V' k)) q := by
        intro q hq
        unfold setRow
        split
        · rfl
        · exact h q hq
      obtain ⟨i1, i2⟩ := ih (k + 1) _ _ (by omega) hs
      exact ⟨i1, by rw [i2]⟩
    · rw [if_neg hc, if_neg hc, if_neg hc, if_neg hc]
      exact ih (k + 1) V V' (by omega) h
theorem dr_ok {w g : Int32} {r n : Nat} : ∀ (m k : Nat) (V : Nat → Nat → Int32), r ≤ k → (∀ q, q < n → RowOK q (V q)) → ∀ q, q < n → RowOK q (drV w g (nI r) m k V q) := by
  intro m
  induction m with
  | zero => exact fun k V _ h => h
  | succ m ih =>
    intro k V hk h
    unfold drV
    refine ih (k + 1) _ (by omega) (fun q hq => ?_)
    split
    · unfold setRow
      split
      · next e =>
        subst e
        exact RowOK_9 (RowOK_15 (RowOK_o (h q hq) 0 (by omega)) (Or.inr ⟨r, hk, rfl⟩)) (by simp [st6])
      · exact h q hq
    · exact h q hq
theorem dr_19 {w g c : Int32} : ∀ (m k : Nat) (V : Nat → Nat → Int32) (q : Nat), drV w g c m k V q 19 = V q 19 := by
  intro m
  induction m with
  | zero => exact fun k V q => rfl
  | succ m ih =>
    intro k V q
    unfold drV
    rw [ih]
    split
    · unfold setRow
      split
      · next e =>
        subst e
        unfold drR
        rw [upd_n (by decide), upd_n (by decide), upd_n (by decide)]
      · rfl
    · rfl
variable {G : Nat → MC} {b : Nat} {P : PV}
theorem a_toDrop (hb : b ≤ 125) {r : Nat} (hr : r < 8) : f_X1_isToDrop (hp G b P) b (nI r) = some (if tdR (tb (P.1 3) r) (rowP P r) = true then 1 else 0) := by
  unfold f_X1_isToDrop b_X1_isToDrop_38 b_X1_isToDrop_42 b_X1_isToDrop_43 tdR
  rw [show rowP P r 9 = P.2 6 r from rfl, p_R6 hb, obs, p_a6 hb, bd_nI (by omega) (by decide), obs]
  by_cases h2 : P.2 6 r = 2
  · rw [if_pos h2, h2]
    rfl
  rw [if_neg h2, obs, p_a6 hb, bd_nI (by omega) (by decide), obs]
  by_cases h3 : P.2 6 r = 3
  · rw [if_pos h3, h3]
    rfl
  rw [if_neg h3, obs, p_a6 hb, bd_nI (by omega) (by decide), obs]
  by_cases h5 : P.2 6 r = 5
  · rw [if_pos h5, p_v1 hb, a_wanted hb hr, obs, h5]
    cases tb (P.1 3) r <;> rfl
  rw [if_neg h5]
  simp [h2, h3, h5, i01]
theorem a_dropLoop (hb : b ≤ 125) {n : Nat} (hn8 : n ≤ 8) (g c : Int32) : ∀ (m k fuel : Nat) (P : PV) (ch : Int32), P.1 0 = nI n → k + m = n → m < fuel →
    ∃ P', f_X1_dropForRestart_13 fuel (hp G b P) b c g ch (nI k) = some (ch + nI (drE (P.1 3) g c m k (rowP P)).length, hp G b P') ∧ rowP P' = drV (P.1 3) g c m k (rowP P) ∧ P'.1 0 = P.1 0 ∧ P'.1 1 = P.1 1 ∧ P'.1 2 = P.1 2 ∧ P'.1 3 = P.1 3 ∧ lgP P' = (drE (P.1 3) g c m k (rowP P)).foldl (pushL (P.1 1)) (lgP P) := by
  intro m
  induction m with
  | zero =>
    intro k fuel P ch hn hk hf
    obtain ⟨fuel, rfl⟩ : ∃ f, fuel = f + 1 := ⟨fuel - 1, by omega⟩
    refine ⟨P, ?_, rfl, rfl, rfl, rfl, rfl, rfl⟩
    show b_X1_dropForRestart_13 _ _ _ _ _ _ _ = _
    unfold b_X1_dropForRestart_13
    rw [p_I0 hb, obs, hn, if_pos (nI_le (by omega) (by omega))]
    simp [drE, nI_0]
  | succ m ih =>
    intro k fuel P ch hn hk hf
    obtain ⟨fuel, rfl⟩ : ∃ f, fuel = f + 1 := ⟨fuel - 1, by omega⟩
    have hk8 : k < 8 := by omega
    have e : f_X1_dropForRestart_13 (fuel + 1) (hp G b P) b c g ch (nI k) = if (tb g k && tdR (tb (P.1 3) k) (rowP P k)) = true then ((f_X1_become (hp G b (wA (wA P 12 k c) 11 k 0)) b (nI k) 4).bind fun h7 => f_X1_dropForRestart_13 fuel h7 b c g (ch + 1) (nI (k + 1))) else f_X1_dropForRestart_13 fuel (hp G b P) b c g ch (nI (k + 1)) := by
      show b_X1_dropForRestart_13 _ _ _ _ _ _ _ = _
      unfold b_X1_dropForRestart_13 b_X1_dropForRestart_66
      rw [p_I0 hb, obs, hn, if_neg (nI_ge (by omega) (by omega)), nI_1]
      rcases Bool.eq_false_or_eq_true (tb g k) with hg | hg
      · rw [if_neg (by rw [tb_and _ (by omega), hg]; decide), p_v1 hb, a_toDrop hb hk8, obs, hg, Bool.true_and]
        by_cases ht : tdR (tb (P.1 3) k) (rowP P k) = true
        · rw [if_pos ht, if_pos ht, if_neg n10, p_R12 hb, obs, p_s12 hb, bd_nI (by omega) (by decide), obs, p_R11 hb, obs, p_s11 hb, bd_nI (by omega) (by decide), obs, p_v1 hb]
        · rw [if_neg ht, if_neg ht, if_pos rfl]
      · rw [if_pos (by rw [tb_and _ (by omega)]; exact hg), hg, Bool.false_and, if_neg (by decide)]
    rw [e]
    unfold drV drE
    by_cases hc : (tb g k && tdR (tb (P.1 3) k) (rowP P k)) = true
    · rw [if_pos hc, if_pos hc, if_pos hc]
      obtain ⟨P3, b1, b2, b3, b4, b5⟩ := a_become (G := G) (P := wA (wA P 12 k c) 11 k 0) hb hk8 4
      have eQ : rowP (wA (wA P 12 k c) 11 k 0) = setRow (rowP P) k (upd (upd (rowP P k) 15 c) 14 0) := by
        rw [rw_14, rw_15, sr_at, sr_sr]
      rw [eQ, sr_at, sr_sr] at b2
      have b2' : rowP P3 = setRow (rowP P) k (drR c (rowP P k)) := by
        rw [b2]
        unfold drR becR
        rw [if_neg (by decide), if_neg (by decide), upd_comm _ (show 15 ≠ 14 by decide)]
      have s0 : P3.1 0 = P.1 0 := by rw [b3]; rfl
      have s1 : P3.1 1 = P.1 1 := by rw [b3]; rfl
      have s2 : P3.1 2 = P.1 2 := by rw [b3]; rfl
      have s3 : P3.1 3 = P.1 3 := by rw [b3]; rfl
      obtain ⟨P2, k1, k2, k3, k4, k5, k6, k7⟩ := ih (k + 1) fuel P3 (ch + 1) (by rw [s0]; exact hn) (by omega) (by omega)
      rw [s3, b2'] at k1 k2 k7
      refine ⟨P2, ?_, k2, k3.trans s0, k4.trans s1, k5.trans s2, k6.trans s3, ?_⟩
      · rw [b1, obs, k1, List.length_cons, ← nI_1, Int32.add_comm (nI _) 1, Int32.add_assoc]
      · rw [k7, List.foldl_cons, s1]
        congr 1
        unfold lgP pushL
        rw [b3, b4, eQ, sr_at, upd_n (show 15 ≠ 14 by decide), upd_s]
        rfl
    · rw [if_neg hc, if_neg hc, if_neg hc]
      exact ih (k + 1) fuel P ch hn (by omega) (by omega)
theorem z_restLoop (hb : b ≤ 134) {n : Nat} (hn8 : n ≤ 8) (w g c : Int32) : ∀ (m k fuel : Nat) (M : MV) (l : LG), M.2 1 0 = nI n → LRel l (M.2 1) → (∀ q, q < n → M.2 1 (68 + 20 * q + 8) = if tb w q = true then 1 else 0) → k + m = n → m < fuel →
    ∃ M', f_X4_restart_62 fuel (hm G b M) b c g (nI k) = some (M'.1.1 6, hm G b M') ∧ ZT M M' (drV w g c m k (rowZ (M.2 1))) (drE w g c m k (rowZ (M.2 1))) := by
  intro m
  induction m with
  | zero =>
    intro k fuel M l hn hl hw hk hf
    obtain ⟨fuel, rfl⟩ : ∃ f, fuel = f + 1 := ⟨fuel - 1, by omega⟩
    refine ⟨M, ?_, ZT_refl M⟩
    show b_X4_restart_62 _ _ _ _ _ _ = _
    unfold b_X4_restart_62
    rw [m_R1 hb, obs, m_a1 hb, b228_0, obs, hn, if_pos (nI_le (by omega) (by omega)), m_I6 hb, obs]
  | succ m ih =>
    intro k fuel M l hn hl hw hk hf
    obtain ⟨fuel, rfl⟩ : ∃ f, fuel = f + 1 := ⟨fuel - 1, by omega⟩
    have hk8 : k < 8 := by omega
    have e115 : ∀ (x : Bool), b_X4_restart_115 (f_X4_restart_62 fuel) (hm G b M) b c g (nI k) (if x = true then 1 else 0) = if (tb g k && x) = true then ((f_X4_becomeFor (hm G b (wZ M (upd (M.2 1) (68 + 20 * k + 14) 0))) b (nI k) 4 c).bind fun h3 => f_X4_restart_62 fuel h3 b c g (nI (k + 1))) else f_X4_restart_62 fuel (hm G b M) b c g (nI (k + 1)) := by
      intro x
      unfold b_X4_restart_115 b_X4_restart_145
      rw [z_has _ _ (by omega), obs, nI_1, ite01, ite01, m_v hb, m_lay14 hb hk8, obs, m_v hb]
      cases tb g k <;> cases x <;> rfl
    have e : f_X4_restart_62 (fuel + 1) (hm G b M) b c g (nI k) = if (tb g k && tdR (tb w k) (rowZ (M.2 1) k)) = true then ((f_X4_becomeFor (hm G b (wZ M (upd (M.2 1) (68 + 20 * k + 14) 0))) b (nI k) 4 c).bind fun h3 => f_X4_restart_62 fuel h3 b c g (nI (k + 1))) else f_X4_restart_62 fuel (hm G b M) b c g (nI (k + 1)) := by
      rw [← e115]
      show b_X4_restart_62 _ _ _ _ _ _ = _
      unfold b_X4_restart_62 b_X4_restart_110 b_X4_restart_114 tdR
      rw [m_R1 hb, obs, m_a1 hb, b228_0, obs, hn, if_neg (nI_ge (by omega) (by omega)), m_v hb, m_of9 hb hk8, obs]
      by_cases h2 : rowZ (M.2 1) k 9 = 2
      · rw [if_pos h2, h2]
        rfl
      rw [if_neg h2]
      by_cases h3 : rowZ (M.2 1) k 9 = 3
      · rw [if_pos h3, h3]
        rfl
      rw [if_neg h3]
      by_cases h5 : rowZ (M.2 1) k 9 = 5
      · rw [if_pos h5, m_v hb, m_of8 hb hk8, obs, hw k (by omega), h5]
        cases tb w k <;> rfl
      rw [if_neg h5]
      simp [h2, h3, h5]
    rw [e]
    unfold drV drE
    by_cases hc : (tb g k && tdR (tb w k) (rowZ (M.2 1) k)) = true
    · rw [if_pos hc, if_pos hc, if_pos hc]
      have t : ZL G b M k (f_X4_becomeFor (hm G b (wZ M (upd (M.2 1) (68 + 20 * k + 14) 0))) b (nI k) 4 c) (drR c (rowZ (M.2 1) k)) [(nI k, 4, c)] := by
        refine ZL_lay hk8 (k := 14) (by decide) (by decide) 0 ?_
        have t := z_becomeFor (G := G) hb (M := wZ M (upd (M.2 1) (68 + 20 * k + 14) 0)) hk8 (LRel_lay hl) (s := 4) (x := c)
        rw [wZ_z, ZL_row (by decide) (by decide)] at t
        exact t
      obtain ⟨M1, g1, g2⟩ := t
      have g2' := g2
      obtain ⟨a1, a2, a3, a4, a5, a6, a7, a8, a9⟩ := g2'
      obtain ⟨M2, k1, k2⟩ := ih (k + 1) fuel M1 _ (by rw [a7 0 (by omega)]; exact hn) (a9 l hl) (fun q hq => by rw [a8 q (by omega)]; exact hw q hq) (by omega) (by omega)
      rw [a1] at k2
      refine ⟨M2, ?_, ZT_trans g2 k2⟩
      rw [g1, obs]
      exact k1
    · rw [if_neg hc, if_neg hc, if_neg hc]
      exact ih (k + 1) fuel M l hn hl hw (by omega) (by omega)
theorem RZ_ZT {n : Nat} {P P' : PV} {M M' : MV} {V : Nat → Nat → Int32} {es : List (Int32 × Int32 × Int32)} (h : RZ n P (M.2 1)) (ht : ZT M M' V es) (hV : ∀ q, q < n → rowP P' q = V q) (e0 : P'.1 0 = P.1 0) (e1 : P'.1 1 = P.1 1) (e2 : P'.1 2 = P.1 2) (e3 : P'.1 3 = P.1 3) (el : lgP P' = es.foldl (pushL (P.1 1)) (lgP P)) (hk : ∀ q, q < n → RowOK q (V q)) : RZ n P' (M'.2 1) := by
  obtain ⟨hn8, h0, z0, z1, z2, hrow, hw, hl, hwn, hok⟩ := h
  obtain ⟨a1, a2, a3, a4, a5, a6, a7, a8, a9⟩ := ht
  refine ⟨hn8, e0.trans h0, (a7 0 (by omega)).trans z0, by rw [a7 1 (by omega), e2]; exact z1, by rw [a7 2 (by omega), e1]; exact z2, fun q hq => by rw [hV q hq, a1], fun q hq => by rw [a8 q (by omega), e3]; exact hw q hq, ?_, by rw [e3]; exact hwn, fun q hq => by rw [hV q hq]; exact hk q hq⟩
  rw [el, ← z2]
  exact a9 _ hl
theorem or_bit8 : ∀ a, a < 256 → ∀ r, r < 8 → a.testBit r = true → (nI a &&& (nI (2 ^ r) ^^^ (-1 : Int32))) ||| nI (2 ^ r) = nI a := by decide +kernel
theorem or_bit {x : Int32} {r : Nat} (hx : x.toBitVec.toNat < 256) (hr : r < 8) (ht : tb x r = true) : (x &&& (((1 : Int32) <<< (nI r &&& 31)) ^^^ (-1 : Int32))) ||| ((1 : Int32) <<< (nI r &&& 31)) = x := by
  rw [nI_bit (by omega), ← nI_nat x]
  exact or_bit8 _ hx r hr ht
theorem z_foll (hb : b ≤ 134) {M : MV} {nd : Nat → Int32} {r n : Nat} (h0 : M.2 1 0 = nI n) (hn8 : n ≤ 8) (hr : r < n) (hnd : ∀ j, j < n → M.2 1 (68 + 20 * j + 7) = nd j) (hlt : ∀ j, j < n → (nd j).toBitVec.toNat < 2 ^ j) : f_X4_followers (hm G b M) b (nI r) = some (foF nd n 0 ((1 : Int32) <<< (nI r &&& 31)) &&& (((1 : Int32) <<< (nI r &&& 31)) ^^^ (-1 : Int32))) := by
  unfold f_X4_followers
  rw [obs, obs, nI_1, z_follLoop hb h0 hn8 hnd (n - (r + 1)) (r + 1) FU _ (by omega) (by rw [FU_eq]; omega), foll_eq hr hn8 hlt]
theorem fo_bit {nd : Nat → Int32} {r n : Nat} (hr : r < n) (hn8 : n ≤ 8) : (foF nd n 0 ((1 : Int32) <<< (nI r &&& 31))).toBitVec.toNat < 256 ∧ tb (foF nd n 0 ((1 : Int32) <<< (nI r &&& 31))) r = true := by
  have hlt : ((1 : Int32) <<< (nI r &&& 31)).toBitVec.toNat < 2 ^ n := by
    have h1 : 2 ^ r < 2 ^ n := Nat.pow_lt_pow_right (by decide) (by omega)
    have h2 : 2 ^ n ≤ 2 ^ 8 := Nat.pow_le_pow_right (by decide) hn8
    rw [nI_bit (by omega), pk_tn (by omega)]
    exact h1
  have h2 : 2 ^ n ≤ 256 := Nat.pow_le_pow_right (n := 2) (i := n) (j := 8) (by decide) hn8
  refine ⟨Nat.lt_of_lt_of_le (fo_lt hn8 n 0 _ (by omega) hlt) h2, fo_keep n 0 _ r ?_⟩
  rw [tb_bit (by omega)]
  exact decide_eq_true rfl
theorem z_res29 (hb : b ≤ 134) {M : MV} (x c : Int32) : b_X4_restart_29 (hm G b M) b x b c = if c ≤ 0 then (f_X4_save (hm G b (mS M 0 c)) b).bind (fun h11 => (vcall h11 4 b (f_X4_followers h11 b x)).bind fun v12 => (hP h11 4 b 6 (.int (0 : Int32))).bind fun h14 => f_X4_restart_62 FU h14 b x (v12 ||| ((1 : Int32) <<< (x &&& 31))) x) else some (0, hm G b (mS M 0 c)) := by
  unfold b_X4_restart_29
  simp only [m_P0 hb, m_I0 hb, m_v hb, obs, mS_0]
variable {T : TS}
theorem op_restart {n s : Nat} (h : INV T n s) (x : Int32) : OKc T (f_L_restart (HT T) 0 x 140) (fun h => vcall h 4 133 (f_X4_restart h 133 x)) := by
  have h' := h
  obtain ⟨hs, hS, hM, hσ, hz, ha, hv, hbf⟩ := h'
  have hz' := hz
  obtain ⟨hn8, h0, z0, z1, z2, hrow, hw, hl, hwn, hok⟩ := hz'
  have hb : 133 ≤ 134 := by decide
  unfold f_L_restart
  rw [t_v3]
  rcases rail_cases hn8 x with ⟨r, hr, rfl⟩ | hx
  · have hR := rail_not hn8 hr
    have hr8 : r < 8 := by omega
    by_cases ht : tb ((T.1.2.2 0).1 3) r = true
    · obtain ⟨P', c1, c2, c3, c4, c5, c6, c7⟩ := a_dropLoop (G := gT (svT T s)) (b := 1) (by decide) hn8 (foF ((T.1.2.2 0).2 5) n 0 ((1 : Int32) <<< (nI r &&& 31))) (nI r) (n - r) r FU (T.1.2.2 0) 0 h0 (by omega) (by rw [FU_eq]; omega)
      have e1 : f_X3_restart (HT T) 0 (nI r) = some (.inr (nI (drE ((T.1.2.2 0).1 3) (foF ((T.1.2.2 0).2 5) n 0 ((1 : Int32) <<< (nI r &&& 31))) (nI r) (n - r) r (rowP (T.1.2.2 0))).length, HT (uP (svT T s) 0 P'))) := by
        unfold f_X3_restart
        rw [t_v3, c_isRail h0, obs, if_neg hR, if_neg n10, t_R0, obs, q_v1, HT0 T, a_wanted (by decide) hr8, if_pos ht, obs, if_neg n10, ← HT0 T, t_v3, t_save T hs hS hσ, obs, t_R0, obs, q_v1]
        unfold f_X1_dropForRestart
        rw [q_v1, q_foll hn8 (by rw [sv_pl T hσ]; exact h0), obs, sv_pl T hσ, HT0 (svT T s), sv_pl T hσ, c1, obs, Int32.zero_add, hp0]
      rw [e1]
      refine OK_do1 h (a := nI (drE ((T.1.2.2 0).1 3) (foF ((T.1.2.2 0).2 5) n 0 ((1 : Int32) <<< (nI r &&& 31))) (nI r) (n - r) r (rowP (T.1.2.2 0))).length) (P' := P') ?_ (fun G => ?_)
      · rw [obs, Sum.elim_inr, t_sL, obs]
        rfl
      · have hnd : ∀ j, j < n → T.2.2.1.2 1 (68 + 20 * j + 7) = (T.1.2.2 0).2 5 j := by
          intro j hj
          have e := congrFun (hrow j hj) 7
          rw [rz_in (by decide)] at e
          exact e.symm
        have hlt : ∀ j, j < n → ((T.1.2.2 0).2 5 j).toBitVec.toNat < 2 ^ j := fun j hj => (hok j hj).2.2.2.2.1
        obtain ⟨M', k1, k2⟩ := z_restLoop (G := G) (b := 133) hb hn8 ((T.1.2.2 0).1 3) (foF ((T.1.2.2 0).2 5) n 0 ((1 : Int32) <<< (nI r &&& 31))) (nI r) (n - r) r FU (mS (sM T.2.2.1 s) 6 0) (lgP (T.1.2.2 0)) z0 hl hw (by omega) (by rw [FU_eq]; omega)
        obtain ⟨d1, d2⟩ := dr_congr ((T.1.2.2 0).1 3) (foF ((T.1.2.2 0).2 5) n 0 ((1 : Int32) <<< (nI r &&& 31))) (nI r) (n := n) (n - r) r (rowP (T.1.2.2 0)) (rowZ (T.2.2.1.2 1)) (by omega) hrow
        have k2' := k2
        obtain ⟨a1, a2, a3, a4, a5, a6, a7, a8, a9⟩ := k2'
        rw [show (mS (sM T.2.2.1 s) 6 0).2 1 = T.2.2.1.2 1 from rfl, ← d2] at a2
        have hrz : RZ n (T.1.2.2 0) ((mS (sM T.2.2.1 s) 6 0).2 1) := hz
        have hrz2 := RZ_ZT (P' := P') hrz k2 (fun q hq => by rw [c2]; exact d1 q hq) c3 c4 c5 c6 (by rw [c7, d2]; rfl) (fun q hq => by
          rw [show (mS (sM T.2.2.1 s) 6 0).2 1 = T.2.2.1.2 1 from rfl, ← d1 q hq]
          exact dr_ok (n - r) r _ (Nat.le_refl _) hok q hq)
        have haz : AZ n P' := ⟨by rw [c4]; exact ha.1, fun q hq => by rw [c2, dr_19, c4]; exact ha.2 q hq⟩
        refine ⟨M', n, ?_, a4 0 (by decide) (by decide), hrz2, haz, a6 3 (by decide), a4 2 (by decide) (by decide), a4 4 (by decide) (by decide), a6 5 (by decide)⟩
        unfold f_X4_restart
        rw [m_v hb, z_isRail hb z0 hn8, obs, if_neg hR, if_neg n10, m_v hb, m_of8 hb hr8, obs, hw r hr, if_pos ht, if_pos rfl, z_res29 hb, if_pos (by decide), z_saveT hb hs hM, obs, m_v hb, z_foll (M := sM T.2.2.1 s) hb z0 hn8 hr hnd hlt, obs, m_P6 hb, obs, or_bit (fo_bit hr hn8).1 hr8 (fo_bit hr hn8).2, k1, a2]
        rw [show (mS (sM T.2.2.1 s) 6 0).1.1 6 = 0 from rfl, Int32.zero_add]
    · have e1 : f_X3_restart (HT T) 0 (nI r) = some (.inl (1, HT T)) := by
        unfold f_X3_restart
        rw [t_v3, c_isRail h0, obs, if_neg hR, if_neg n10, t_R0, obs, q_v1, HT0 T, a_wanted (by decide) hr8, if_neg ht, obs, if_pos rfl]
      rw [e1]
      refine OK_no h (c := 2) (by decide) rfl (fun G => ?_)
      unfold f_X4_restart
      rw [m_v hb, z_isRail hb z0 hn8, obs, if_neg hR, if_neg n10, m_v hb, m_of8 hb hr8, obs, hw r hr, if_neg ht, if_neg (by decide), z_res29 hb, if_neg (by decide)]
  · have e1 : f_X3_restart (HT T) 0 x = some (.inl (2, HT T)) := by
      unfold f_X3_restart
      rw [t_v3, c_isRail h0, obs, if_pos hx, if_pos rfl]
    rw [e1]
    refine OK_no h (c := 1) (by decide) rfl (fun G => ?_)
    unfold f_X4_restart
    rw [m_v hb, z_isRail hb z0 hn8, obs, if_pos hx, if_pos rfl, z_res29 hb, if_neg (by decide)]
