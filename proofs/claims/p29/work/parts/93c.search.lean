/-! looking ahead: when all would be good, when all would be off -/
def al (t : Nat → Bool) : Nat → Nat → Bool
  | 0, _ => true
  | m + 1, k => t k && al t m (k + 1)
theorem al_iff {t : Nat → Bool} : ∀ m k, al t m k = true ↔ ∀ q, k ≤ q → q < k + m → t q = true := by
  intro m
  induction m with
  | zero => exact fun k => ⟨fun _ q h1 h2 => by omega, fun _ => rfl⟩
  | succ m ih =>
    intro k
    show (t k && al t m (k + 1)) = true ↔ _
    rw [Bool.and_eq_true, ih (k + 1)]
    constructor
    · intro ⟨h1, h2⟩ q q1 q2
      by_cases e : q = k
      · rw [e]; exact h1
      · exact h2 q (by omega) (by omega)
    · intro h
      exact ⟨h k (Nat.le_refl _) (by omega), fun q q1 q2 => h q (by omega) (by omega)⟩
def tsA (X Y : LX) (p : Int32) (q : Nat) : Bool := if p = 0 then (decide (Y 1 (9 * q + 1) = 0) || decide (Y 1 (9 * q + 2) = 3)) else (decide (Y 1 (9 * q + 2) = 0) && !decide (X 4 1 < Y 1 (9 * q + 3)))
variable {T : TS} {X Y : LX} {c n : Nat} {x y : Int32}
theorem l_435 (hc : KC T c) (hn6 : n ≤ 6) (hn : X 4 0 = nI n) (rec27 : MH → Nat → Int32 → Int32 → Nat → Nat → Nat → Nat → Nat → Nat → Nat → Int32 → Option (Int32 × MH)) (rec416 : MH → Nat → Int32 → Int32 → Nat → Nat → Nat → Nat → Nat → Nat → Nat → Int32 → Int32 → Int32 → Option (Int32 × MH)) (p kk : Int32) : ∀ (m j fuel : Nat) (d : Bool), j + m = n → m < fuel → f_L_ahead_435 rec27 rec416 fuel (HT (uC T X c Y)) 0 x y 133 134 137 c (c + 1) (c + 2) (c + 3) p kk (if d = true then 1 else 0) (nI j) = if (d && al (tsA X Y p) m j) = true then b_L_ahead_553 rec27 (HT (uC T X c Y)) 0 x y 133 134 137 c (c + 1) (c + 2) (c + 3) p kk 1 else (f_L_tick (HT (uC T X c Y)) 133 c (c + 1) (c + 2) (c + 3)).bind fun h4 => rec416 h4 0 x y 133 134 137 c (c + 1) (c + 2) (c + 3) p (kk + 1) 0 := by
  intro m
  induction m with
  | zero =>
    intro j fuel d hj hf
    obtain ⟨fuel, rfl⟩ : ∃ f, fuel = f + 1 := ⟨fuel - 1, by omega⟩
    show b_L_ahead_435 rec27 rec416 _ _ 0 x y 133 134 137 c (c + 1) (c + 2) (c + 3) p kk _ _ = _
    unfold b_L_ahead_435
    rw [z_m4 hc, l6_0, obs, hn, if_pos (nI_le (by omega) (by omega))]
    cases d
    · rw [if_neg (show ¬ false = true by decide), if_pos rfl, if_neg (show ¬ (false && al (tsA X Y p) 0 j) = true by rw [Bool.false_and]; decide)]
    · rw [if_pos (show true = true from rfl), if_neg (show ¬ (1 : Int32) = 0 by decide), if_pos (show (true && al (tsA X Y p) 0 j) = true from rfl)]
  | succ m ih =>
    intro j fuel d hj hf
    obtain ⟨fuel, rfl⟩ : ∃ f, fuel = f + 1 := ⟨fuel - 1, by omega⟩
    have e519 : ∀ u : Int32, b_L_ahead_519 rec27 rec416 (f_L_ahead_435 rec27 rec416 fuel) (HT (uC T X c Y)) 0 x y 133 134 137 c (c + 1) (c + 2) (c + 3) p kk (nI j) u = f_L_ahead_435 rec27 rec416 fuel (HT (uC T X c Y)) 0 x y 133 134 137 c (c + 1) (c + 2) (c + 3) p kk u (nI (j + 1)) := by
      intro u
      unfold b_L_ahead_519
      rw [nI_1]
    show b_L_ahead_435 rec27 rec416 _ _ 0 x y 133 134 137 c (c + 1) (c + 2) (c + 3) p kk _ _ = _
    unfold b_L_ahead_435
    rw [z_m4 hc, l6_0, obs, hn, if_neg (nI_ge (by omega) (by omega))]
    unfold b_L_ahead_518 b_L_ahead_514
    rw [e519, e519]
    cases d
    · rw [if_neg (show ¬ false = true by decide), if_pos rfl]
      have i := ih (j + 1) fuel false (by omega) (by omega)
      rw [if_neg (show ¬ false = true by decide)] at i
      rw [i, Bool.false_and, Bool.false_and]
    · rw [if_pos (show true = true from rfl), if_neg (show ¬ (1 : Int32) = 0 by decide)]
      have i := ih (j + 1) fuel (tsA X Y p j) (by omega) (by omega)
      rw [Bool.true_and, show al (tsA X Y p) (m + 1) j = (tsA X Y p j && al (tsA X Y p) m (j + 1)) from rfl, ← i]
      unfold tsA
      rw [jx9, ixa1, ixa2, ixa3, z_a1 hc, bd_nI (by omega) (by decide), z_a1 hc, bd_nI (by omega) (by decide), z_a1 hc, bd_nI (by omega) (by decide), z_m4 hc, l6_1]
      simp only [obs]
      by_cases hp : p = 0
      · rw [if_pos hp, if_pos hp]
        by_cases h1 : Y 1 (9 * j + 1) = 0
        · rw [if_pos h1, decide_eq_true h1, Bool.true_or, if_pos rfl]
        · rw [if_neg h1, decide_eq_false h1, Bool.false_or]
          by_cases h2 : Y 1 (9 * j + 2) = 3
          · rw [if_pos h2, decide_eq_true h2, if_pos rfl]
          · rw [if_neg h2, decide_eq_false h2, if_neg (show ¬ false = true by decide)]
      · rw [if_neg hp, if_neg hp]
        by_cases h1 : Y 1 (9 * j + 2) = 0
        · rw [if_pos h1, decide_eq_true h1, Bool.true_and]
          by_cases h2 : X 4 1 < Y 1 (9 * j + 3)
          · rw [if_pos h2, decide_eq_true h2, if_neg (show ¬ (!true) = true by decide)]
          · rw [if_neg h2, decide_eq_false h2, if_pos (show (!false) = true from rfl)]
        · rw [if_neg h1, decide_eq_false h1, Bool.false_and, if_neg (show ¬ false = true by decide)]
/-- how a search ends: at kk, or not -/
def SG (tp : PV → Bool) (n : Nat) : Nat → Nat → PV → Nat → Bool → Prop
  | 0, k, _, kk, dn => kk = k ∧ dn = false
  | m + 1, k, P, kk, dn => if tp P = true then kk = k ∧ dn = true else ∀ P', PT n P P' → SG tp n m (k + 1) P' kk dn
theorem l_416 (hc : KC T c) (hn6 : n ≤ 6) (hn : X 4 0 = nI n) (rec27 : MH → Nat → Int32 → Int32 → Nat → Nat → Nat → Nat → Nat → Nat → Nat → Int32 → Option (Int32 × MH)) (p : Int32) {tp : PV → Bool} (htp : ∀ Y P, RW n P Y → Y 4 1 = X 4 1 → al (tsA X Y p) n 0 = tp P) : ∀ (m k fuel : Nat) (Y : LX), (∃ P, RW n P Y ∧ (P.1 1).toInt + m ≤ 30000) → Y 4 1 = X 4 1 → k + m = 1001 → m < fuel → ∃ Y' kk dn, f_L_ahead_416 rec27 fuel (HT (uC T X c Y)) 0 x y 133 134 137 c (c + 1) (c + 2) (c + 3) p (nI k) 0 = b_L_ahead_553 rec27 (HT (uC T X c Y')) 0 x y 133 134 137 c (c + 1) (c + 2) (c + 3) p (nI kk) (if dn = true then 1 else 0) ∧ Y' 0 = Y 0 ∧ ∀ P, RW n P Y → (P.1 1).toInt + m ≤ 30000 → SG tp n m k P kk dn := by
  intro m
  induction m with
  | zero =>
    intro k fuel Y _ _ hk hf
    obtain ⟨fuel, rfl⟩ : ∃ f, fuel = f + 1 := ⟨fuel - 1, by omega⟩
    refine ⟨Y, k, false, ?_, rfl, fun P _ _ => ⟨rfl, rfl⟩⟩
    show b_L_ahead_416 rec27 _ _ 0 x y 133 134 137 c (c + 1) (c + 2) (c + 3) p _ _ = _
    unfold b_L_ahead_416
    rw [if_pos (by rw [show (1001 : Int32) = nI 1001 from rfl]; exact nI_le (by omega) (by omega))]
    rfl
  | succ m ih =>
    intro k fuel Y hP hy hk hf
    obtain ⟨fuel, rfl⟩ : ∃ f, fuel = f + 1 := ⟨fuel - 1, by omega⟩
    obtain ⟨P, hP, ht⟩ := hP
    have e1 : f_L_ahead_416 rec27 (fuel + 1) (HT (uC T X c Y)) 0 x y 133 134 137 c (c + 1) (c + 2) (c + 3) p (nI k) 0 = f_L_ahead_435 rec27 (f_L_ahead_416 rec27 fuel) FU (HT (uC T X c Y)) 0 x y 133 134 137 c (c + 1) (c + 2) (c + 3) p (nI k) 1 0 := by
      show b_L_ahead_416 rec27 _ _ 0 x y 133 134 137 c (c + 1) (c + 2) (c + 3) p _ _ = _
      unfold b_L_ahead_416
      rw [if_neg (by rw [show (1001 : Int32) = nI 1001 from rfl]; exact nI_ge (by omega) (by omega)), if_pos rfl]
    have e2 := l_435 (T := T) (X := X) (Y := Y) (x := x) (y := y) hc hn6 hn rec27 (f_L_ahead_416 rec27 fuel) p (nI k) n 0 FU true (by omega) (by rw [FU_eq]; omega)
    rw [if_pos (show true = true from rfl), Bool.true_and, show nI 0 = (0 : Int32) from rfl] at e2
    by_cases hg : al (tsA X Y p) n 0 = true
    · rw [if_pos hg] at e2
      refine ⟨Y, k, true, (e1.trans e2), rfl, fun Q hQ _ => ?_⟩
      show if tp Q = true then _ else _
      rw [if_pos (by rw [← htp Y Q hQ hy]; exact hg)]
      exact ⟨rfl, rfl⟩
    · rw [if_neg hg] at e2
      obtain ⟨Y1, k1, k2, k3⟩ := tickC (X := X) hc hP
      have hz := hP.2.2.2.2.2.2.2.2.1.1
      obtain ⟨P1, _, g2⟩ := p_tick (G := gT T) (b := 1) (P := P) (by decide) (show n ≤ 8 by omega) hP.2.1
      have et : ∀ {A B : PV}, PT n A B → 0 ≤ (A.1 1).toInt → (A.1 1).toInt ≤ 30000 → (B.1 1).toInt = (A.1 1).toInt + 1 := by
        intro A B h h1 h2
        have e1 : (1 : Int32).toInt = 1 := rfl
        rw [h.2.2.1, i_add (by omega) (by omega)]
        rfl
      have et1 := et g2 hz (by omega)
      have r1 := (k3 P P1 hP g2 (by omega)).1
      have hy1 : Y1 4 1 = X 4 1 := (r1.2.2.2.1.trans g2.2.2.2.1).trans (hP.2.2.2.1.symm.trans hy)
      obtain ⟨Y', kk, dn, a1, a2, a3⟩ := ih (k + 1) fuel Y1 ⟨P1, r1, by omega⟩ hy1 (by omega) (by omega)
      refine ⟨Y', kk, dn, ?_, a2.trans k2, fun Q hQ htQ => ?_⟩
      · rw [e1, e2, k1, obs, nI_1, a1]
      · show if tp Q = true then _ else _
        rw [if_neg (by rw [← htp Y Q hQ hy]; exact hg)]
        intro Q' hQ'
        have hz' := hQ.2.2.2.2.2.2.2.2.1.1
        have et2 := et hQ' hz' (by omega)
        exact a3 Q' (k3 Q Q' hQ hQ' (by omega)).1 (by omega)
/-! the class's searches -/
theorem tb_big (w : Int32) {q : Nat} (h : 32 ≤ q) : tb w q = false := by
  have h1 : w.toBitVec.toNat < 2 ^ 32 := w.toBitVec.isLt
  exact Nat.testBit_lt_two_pow (Nat.lt_of_lt_of_le h1 (Nat.pow_le_pow_right (by decide) h))
theorem tb_ma {V : Nat → Nat → Int32} {v : Int32} (hn6 : n ≤ 8) (q : Nat) : tb (maS V v n) q = (decide (q < n) && decide (V q 9 = v)) := by
  have h := mk_lt (fun q => decide (V q 9 = v)) n
  have h2 : 2 ^ n ≤ 2 ^ 8 := Nat.pow_le_pow_right (by decide) hn6
  unfold maS tb
  rw [pk_tn (by omega), mk_bit]
theorem gd_iff {P : PV} (hn8 : n ≤ 8) (hw : (P.1 3).toBitVec.toNat < 2 ^ n) : gdB P n = true ↔ ∀ q, q < n → tb (P.1 3) q = true → rowP P q 9 = 3 := by
  unfold gdB
  rw [decide_eq_true_iff]
  constructor
  · intro h q hq hb
    have e := tb_andn (P.1 3) (maS (rowP P) 3 n) (show q < 32 by omega)
    rw [h, tb_0, hb, tb_ma hn8, decide_eq_true hq, Bool.true_and, Bool.true_and] at e
    by_cases h3 : rowP P q 9 = 3
    · exact h3
    · rw [decide_eq_false h3] at e
      exact absurd e (by decide)
  · intro h
    refine tb_ext fun q => ?_
    rw [tb_0]
    by_cases hq : q < n
    · rw [tb_andn _ _ (by omega), tb_ma hn8, decide_eq_true hq, Bool.true_and]
      cases hb : tb (P.1 3) q
      · rfl
      · rw [decide_eq_true (h q hq hb)]
        rfl
    · by_cases h32 : q < 32
      · have hf : tb (P.1 3) q = false := Nat.testBit_lt_two_pow (Nat.lt_of_lt_of_le hw (Nat.pow_le_pow_right (by decide) (by omega)))
        rw [tb_andn _ _ h32, hf, Bool.false_and]
      · exact tb_big _ (by omega)
theorem of_iff {V : Nat → Nat → Int32} {res : Int32} : ∀ m k, ofF V res m k = true ↔ ∀ q, k ≤ q → q < k + m → V q 9 = 0 ∧ ¬ res < V q 10 := by
  intro m
  induction m with
  | zero => exact fun k => ⟨fun _ q h1 h2 => by omega, fun _ => rfl⟩
  | succ m ih =>
    intro k
    unfold ofF
    simp only [Bool.and_eq_true, ih (k + 1), decide_eq_true_eq, Bool.not_eq_true', decide_eq_false_iff_not]
    constructor
    · intro h q q1 q2
      by_cases e : q = k
      · rw [e]
        exact ⟨h.1.1, h.1.2⟩
      · exact h.2 q (by omega) (by omega)
    · intro h
      exact ⟨⟨(h k (Nat.le_refl _) (by omega)).1, (h k (Nat.le_refl _) (by omega)).2⟩, fun q q1 q2 => h q (by omega) (by omega)⟩
theorem tp_good {P : PV} (h : RW n P Y) : al (tsA X Y 0) n 0 = gdB P n := by
  obtain ⟨hn6, h0, x0, x1, hrow, hw, hwn, hok, htb⟩ := h
  rw [Bool.eq_iff_iff, al_iff, gd_iff (by omega) hwn]
  have e : ∀ q, q < n → (tsA X Y 0 q = true ↔ (tb (P.1 3) q = true → rowP P q 9 = 3)) := by
    intro q hq
    unfold tsA
    rw [if_pos rfl, hw q hq, hrow q hq 9 (by decide), show rowX Y q 9 = Y 1 (9 * q + 2) from rfl]
    cases tb (P.1 3) q <;> simp
  constructor
  · intro h q hq
    exact (e q hq).1 (h q (Nat.zero_le q) (by omega))
  · intro h q _ hq
    exact (e q (by omega)).2 (h q (by omega))
theorem tp_off {P : PV} (h : RW n P Y) (hy : Y 4 1 = X 4 1) : al (tsA X Y 1) n 0 = ofF (rowP P) (P.1 2) n 0 := by
  obtain ⟨hn6, h0, x0, x1, hrow, hw, hwn, hok, htb⟩ := h
  rw [Bool.eq_iff_iff, al_iff, of_iff]
  have e : ∀ q, q < n → (tsA X Y 1 q = true ↔ (rowP P q 9 = 0 ∧ ¬ P.1 2 < rowP P q 10)) := by
    intro q hq
    unfold tsA
    rw [if_neg (by decide), hrow q hq 9 (by decide), hrow q hq 10 (by decide), show rowX Y q 9 = Y 1 (9 * q + 2) from rfl, show rowX Y q 10 = Y 1 (9 * q + 3) from rfl, ← x1, hy]
    simp
  constructor
  · intro h q h1 hq
    exact (e q (by omega)).1 (h q h1 hq)
  · intro h q h1 hq
    exact (e q (by omega)).2 (h q h1 hq)
theorem SG_never (hn8 : n ≤ 8) : ∀ (m k : Nat) (P : PV) (kk : Nat) (dn : Bool), JJ (P.1 3) (P.1 2) n (rowP P) → gdB P n = false → P.1 0 = nI n → SG (fun P => gdB P n) n m k P kk dn → dn = false := by
  intro m
  induction m with
  | zero => exact fun k P kk dn _ _ _ h => h.2
  | succ m ih =>
    intro k P kk dn hj hg h0 h
    have h : if gdB P n = true then _ else _ := h
    rw [if_neg (by rw [hg]; decide)] at h
    obtain ⟨P', -, hp⟩ := p_tick (G := (0, fun _ => .inr (0, []))) (b := 1) (P := P) (by decide) hn8 h0
    obtain ⟨j1, j2⟩ := JJ_tick hj hp.1
    have e2 : P'.1 2 = P.1 2 := hp.2.2.2.1
    have e3 : P'.1 3 = P.1 3 := hp.2.2.2.2.1
    have hg' : gdB P' n = false := by
      unfold gdB at hg ⊢
      rw [ma_congr (A := rowP P') (A' := rowP P) (n := n) 3 (fun q hq => j2 q hq), e3]
      exact hg
    exact ih (k + 1) P' kk dn (by rw [e2, e3]; exact j1) hg' (hp.2.1.trans h0) (h P' hp)
theorem v_goodLoop (hn8 : n ≤ 8) : ∀ (m k fuel : Nat) (P : PV) (kk : Nat) (dn : Bool), SG (fun P => gdB P n) n m k P kk dn → P.1 0 = nI n → (∀ q, q < n → RowOK q (rowP P q)) → k + m = 1001 → m < fuel → ∃ Q, f_X3_allGoodIn_13 fuel (HT (uP T 1 P)) 0 (nI k) = some (if dn = true then nI kk else -1, HT (uP T 1 Q)) := by
  intro m
  induction m with
  | zero =>
    intro k fuel P kk dn hs h0 hok hk hf
    obtain ⟨fuel, rfl⟩ : ∃ f, fuel = f + 1 := ⟨fuel - 1, by omega⟩
    obtain ⟨rfl, rfl⟩ := hs
    refine ⟨P, ?_⟩
    show b_X3_allGoodIn_13 _ _ _ _ = _
    unfold b_X3_allGoodIn_13
    rw [if_pos (by rw [I1000 _ (by omega)]; omega)]
    rfl
  | succ m ih =>
    intro k fuel P kk dn hs h0 hok hk hf
    obtain ⟨fuel, rfl⟩ : ∃ f, fuel = f + 1 := ⟨fuel - 1, by omega⟩
    obtain ⟨P', e1, hp⟩ := f_tick T (P := P) hn8 h0
    have hq0 : P'.1 0 = nI n := hp.2.1.trans h0
    have hstep := c_goodStep (T := T) (fuel := fuel) (k := k) hn8 h0 (by omega) e1 hp
    have hs : if gdB P n = true then _ else _ := hs
    by_cases hg : gdB P n = true
    · rw [if_pos hg] at hstep hs
      obtain ⟨rfl, rfl⟩ := hs
      exact ⟨P, hstep⟩
    · rw [if_neg hg] at hstep hs
      have hs1 := hs P' hp
      have hok' : ∀ q, q < n → RowOK q (rowP P' q) := fun q hq => by rw [hp.1 q hq]; exact tkV_ok hq (hok q hq)
      by_cases hst : (shF (rowP P) n 0 && stF (rowP P') (rowP P) n 0) = true
      · rw [if_pos hst] at hstep
        rw [Bool.and_eq_true] at hst
        have s1 : ∀ q, q < n → rowP P' q 12 ≤ 0 := fun q hq => by rw [hp.1 q hq]; exact tk12 hq (sh_at n 0 hst.1 q (Nat.zero_le q) (by omega))
        have s2 := fun q (hq : q < n) => st_at n 0 hst.2 q (Nat.zero_le q) (by omega)
        have hj : JJ (P.1 3) (P.1 2) n (rowP P') := JJ_first hok hp.1 (fun r hr => s1 r hr) (fun r hr => s2 r hr)
        have e2 : P'.1 2 = P.1 2 := hp.2.2.2.1
        have e3 : P'.1 3 = P.1 3 := hp.2.2.2.2.1
        have hg' : gdB P' n = false := by
          have hg1 : gdB P n = false := by
            cases h : gdB P n
            · rfl
            · exact absurd h hg
          unfold gdB at hg1 ⊢
          rw [ma_congr (A := rowP P') (A' := rowP P) (n := n) 3 (fun q hq => (s2 q hq).1), e3]
          exact hg1
        have hd := SG_never hn8 m (k + 1) P' kk dn (by rw [e2, e3]; exact hj) hg' hq0 hs1
        refine ⟨P', ?_⟩
        rw [hstep, hd]
        rfl
      · rw [if_neg hst] at hstep
        obtain ⟨Q, i1⟩ := ih (k + 1) fuel P' kk dn hs1 hq0 hok' (by omega) (by omega)
        exact ⟨Q, hstep.trans i1⟩
theorem v_offLoop (hn8 : n ≤ 8) : ∀ (m k fuel : Nat) (P : PV) (kk : Nat) (dn : Bool), SG (fun P => ofF (rowP P) (P.1 2) n 0) n m k P kk dn → P.1 0 = nI n → k + m = 1001 → m < fuel → ∃ Q, f_X3_allOffIn_21 fuel (HT (uP T 1 P)) 0 (nI k) = some (if dn = true then nI kk else -1, HT (uP T 1 Q)) := by
  intro m
  induction m with
  | zero =>
    intro k fuel P kk dn hs h0 hk hf
    obtain ⟨fuel, rfl⟩ : ∃ f, fuel = f + 1 := ⟨fuel - 1, by omega⟩
    obtain ⟨rfl, rfl⟩ := hs
    refine ⟨P, ?_⟩
    show b_X3_allOffIn_21 _ _ _ _ = _
    unfold b_X3_allOffIn_21
    rw [if_pos (by rw [I1000 _ (by omega)]; omega)]
    rfl
  | succ m ih =>
    intro k fuel P kk dn hs h0 hk hf
    obtain ⟨fuel, rfl⟩ : ∃ f, fuel = f + 1 := ⟨fuel - 1, by omega⟩
    obtain ⟨P', e1, hp⟩ := f_tick T (P := P) hn8 h0
    have hstep := c_offStep (T := T) (fuel := fuel) (k := k) hn8 h0 (by omega)
    have hs : if ofF (rowP P) (P.1 2) n 0 = true then _ else _ := hs
    by_cases hg : ofF (rowP P) (P.1 2) n 0 = true
    · rw [if_pos hg] at hstep hs
      obtain ⟨rfl, rfl⟩ := hs
      exact ⟨P, hstep⟩
    · rw [if_neg hg] at hstep hs
      rw [e1, obs] at hstep
      obtain ⟨Q, i1⟩ := ih (k + 1) fuel P' kk dn (hs P' hp) (hp.2.1.trans h0) (by omega) (by omega)
      exact ⟨Q, hstep.trans i1⟩
theorem v_allGood (hn8 : n ≤ 8) (h0 : (T.1.2.2 0).1 0 = nI n) (hok : ∀ q, q < n → RowOK q (rowP (T.1.2.2 0) q)) {kk : Nat} {dn : Bool} (hs : SG (fun P => gdB P n) n 1001 0 (cpP (T.1.2.2 0) (T.1.2.2 1)) kk dn) : ∃ Q, f_X3_allGoodIn (HT T) 0 = some (if dn = true then nI kk else -1, HT (uP T 1 Q)) := by
  obtain ⟨Q, e1⟩ := v_goodLoop (T := T) hn8 1001 0 FU (cpP (T.1.2.2 0) (T.1.2.2 1)) kk dn hs h0 (fun q hq => by rw [cp_row _ _ (by omega)]; exact hok q hq) (by omega) (by rw [FU_eq]; omega)
  refine ⟨Q, ?_⟩
  unfold f_X3_allGoodIn
  rw [t_R1, obs, t_R0, obs, f_v1, f_copy, obs]
  exact e1
theorem v_allOff (hn8 : n ≤ 8) (h0 : (T.1.2.2 0).1 0 = nI n) {kk : Nat} {dn : Bool} (hs : SG (fun P => ofF (rowP P) (P.1 2) n 0) n 1001 0 (wS (cpP (T.1.2.2 0) (T.1.2.2 1)) 3 0) kk dn) : ∃ Q, f_X3_allOffIn (HT T) 0 = some (if dn = true then nI kk else -1, HT (uP T 1 Q)) := by
  obtain ⟨Q, e1⟩ := v_offLoop (T := T) hn8 1001 0 FU (wS (cpP (T.1.2.2 0) (T.1.2.2 1)) 3 0) kk dn hs h0 (by omega) (by rw [FU_eq]; omega)
  refine ⟨Q, ?_⟩
  unfold f_X3_allOffIn
  rw [t_R1, obs, t_R0, obs, f_v1, f_copy, obs, t_R1, obs, f_P3, obs]
  exact e1
