/-! looking ahead: the law's copies -/
def uC (T : TS) (X : LX) (c : Nat) (Y : LX) : TS := uL (uL T 134 X) c Y
def KC (T : TS) (c : Nat) : Prop := 138 ≤ c ∧ c + 4 ≤ 138 + T.2.2.1
variable {T : TS} {X Y : LX} {c n : Nat}
theorem kc_ck (hc : KC T c) (X : LX) : CK (gT (uL T 134 X)) c := ⟨by have := hc.1; omega, hc.2⟩
theorem uC_hl (hc : KC T c) : HT (uC T X c Y) = hl (gT (uL T 134 X)) c Y := HT_uL _ (by have := hc.1; omega) _
theorem z_a1 (hc : KC T c) {j : Int32} : aI (HT (uC T X c Y)) c j = bd 54 j (Y 1) := by rw [uC_hl hc]; exact l_a1 (kc_ck hc X)
theorem z_a4 (hc : KC T c) {j : Int32} : aI (HT (uC T X c Y)) (c + 3) j = bd 6 j (Y 4) := by rw [uC_hl hc]; exact l_a4 (kc_ck hc X)
theorem z_s1 (hc : KC T c) {j x : Int32} : sI (HT (uC T X c Y)) c j x = bd 54 j (fun i => HT (uC T X c (ux Y 1 i x))) := by
  rw [uC_hl hc]
  exact (l_s1 (kc_ck hc X)).trans (congrArg (bd 54 j) (funext fun i => (uC_hl hc).symm))
theorem z_s4 (hc : KC T c) {j x : Int32} : sI (HT (uC T X c Y)) (c + 3) j x = bd 6 j (fun i => HT (uC T X c (ux Y 4 i x))) := by
  rw [uC_hl hc]
  exact (l_s4 (kc_ck hc X)).trans (congrArg (bd 6 j) (funext fun i => (uC_hl hc).symm))
theorem z_mask (hc : KC T c) {p : Nat} (hn : Y 4 0 = nI n) (hn6 : n ≤ 6) (hp : p < 9) (v : Int32) : f_L_mask (HT (uC T X c Y)) (nI p) v c (c + 3) = some (nI (mkN (fun q => decide (Y 1 (9 * q + p) = v)) n)) := by rw [uC_hl hc]; exact l_mask (kc_ck hc X) hn hn6 hp v
theorem uC_main (hc : KC T c) {i : Nat} (h1 : 134 ≤ i) (h2 : i < 138) : (HT (uC T X c Y))[i]? = some (lx X (i - 134 + 1)) := by
  have h3 := hc.1
  have h4 := hc.2
  refine (hh_get (G := gT (uC T X c Y)) (show i < 138 + T.2.2.1 by omega)).trans ?_
  rw [gT_hi _ (by omega)]
  show some (if i = 133 then lx Y 0 else if c ≤ i ∧ i < c + 4 then lx Y (i - c + 1) else if i = 133 then lx X 0 else if 134 ≤ i ∧ i < 134 + 4 then lx X (i - 134 + 1) else T.2.2.2 i) = _
  rw [if_neg (by omega), if_neg (by omega), if_neg (by omega), if_pos (by omega)]
theorem z_m1 (hc : KC T c) {j : Int32} : aI (HT (uC T X c Y)) 134 j = bd 54 j (X 1) := by
  have hg := uC_main (X := X) (Y := Y) hc (i := 134) (by decide) (by decide)
  have hC : aC (HT (uC T X c Y)) 0 134 = some (54, .inl (X 1)) := by
    simp only [aC, hg, lx]
    rfl
  simp only [aI, hC]
  rfl
theorem z_m4 (hc : KC T c) {j : Int32} : aI (HT (uC T X c Y)) 137 j = bd 6 j (X 4) := by
  have hg := uC_main (X := X) (Y := Y) hc (i := 137) (by decide) (by decide)
  have hC : aC (HT (uC T X c Y)) 0 137 = some (6, .inl (X 4)) := by
    simp only [aC, hg, lx]
    rfl
  simp only [aI, hC]
  rfl
theorem uC_uP (T : TS) (X : LX) (c : Nat) (Y : LX) (j : Nat) (P : PV) : uP (uC T X c Y) j P = uC (uP T j P) X c Y := rfl
/-- the copies stand for the plant, accounts and log aside -/
def RW (n : Nat) (P : PV) (Y : LX) : Prop := n ≤ 6 ∧ P.1 0 = nI n ∧ Y 4 0 = nI n ∧ Y 4 1 = P.1 2 ∧ (∀ q, q < n → R6 (rowP P q) (rowX Y q)) ∧ wnX Y (P.1 3) n ∧ (P.1 3).toBitVec.toNat < 2 ^ n ∧ (∀ q, q < n → RowOK q (rowP P q)) ∧ TB n P
theorem RW_q {P : PV} (h : RW n P Y) : ∀ q, q < n → st6 (rowX Y q 9) ∧ smR (rowX Y q) ∧ 0 ≤ (rowX Y q 13).toInt ∧ (rowX Y q 13).toInt < 2147483647 := by
  obtain ⟨hn6, h0, x0, x1, hrow, hw, hwn, hok, ⟨t0, t1⟩, t13⟩ := h
  intro q hq
  have hr := hrow q hq
  obtain ⟨b0, b1, b2, b3, b7, b9, b10, b12, b15⟩ := hok q hq
  obtain ⟨c1, c2⟩ := t13 q hq
  rw [hr 0 (by decide)] at b0
  rw [hr 1 (by decide)] at b1
  rw [hr 2 (by decide)] at b2
  rw [hr 3 (by decide)] at b3
  rw [hr 9 (by decide)] at b9
  rw [hr 10 (by decide)] at b10
  rw [hr 13 (by decide)] at c1 c2
  refine ⟨b9, ?_, c1, by omega⟩
  unfold smR sm
  omega
theorem tick9w {G : GB} {P : PV} (hc : CK G c) (h : RW n P Y) : ∃ Y', f_L_tick (hl G c Y) 133 c (c + 1) (c + 2) (c + 3) = some (hl G c Y') ∧ Y' 0 = Y 0 ∧ ∀ Q P', RW n Q Y → PT n Q P' → (Q.1 1).toInt < 100000 → RW n P' Y' ∧ Y' 4 5 = (tkE (rowP Q) (Q.1 3) (Q.1 2) n).foldl falE (Y 4 5) := by
  have hq := RW_q h
  obtain ⟨X', a1, a2, a3, a4, a5, a6, a7, a8, a9, a10, a11⟩ := l_tick hc h.2.2.1 h.1 h.2.2.2.2.2.1 hq
  refine ⟨X', a1, a2, fun Q P' hQ hp ht => ?_⟩
  have ew : P.1 3 = Q.1 3 := w_same h.1 h.2.2.2.2.2.1 hQ.2.2.2.2.2.1 h.2.2.2.2.2.2.1 hQ.2.2.2.2.2.2.1
  obtain ⟨hn6, h0, x0, x1, hrow, hw, hwn, hok, htb⟩ := hQ
  have hp' := hp
  obtain ⟨p1, p2, p3, p4, p5, p6, p7⟩ := hp'
  rw [ew] at a3 a4 a9
  have eE : tkE (rowX Y) (Q.1 3) (Y 4 1) n = tkE (rowP Q) (Q.1 3) (Q.1 2) n := by
    rw [x1]
    exact (tkE_cut _ _ hrow).symm
  rw [eE] at a9
  refine ⟨⟨hn6, p2.trans h0, a5.trans x0, (a6.trans x1).trans p4.symm, fun q hq => ?_, by rw [p5]; exact a3, by rw [p5]; exact hwn, fun q hq => ?_, TB_tick htb hp ht⟩, a9⟩
  · rw [p1 q hq, a4 q hq, x1]
    exact tkV_cut _ _ hrow hq
  · rw [p1 q hq]
    exact tkV_ok hq (hok q hq)
/-- the same on the whole -/
theorem tickC {P : PV} (hc : KC T c) (h : RW n P Y) : ∃ Y', f_L_tick (HT (uC T X c Y)) 133 c (c + 1) (c + 2) (c + 3) = some (HT (uC T X c Y')) ∧ Y' 0 = Y 0 ∧ ∀ Q P', RW n Q Y → PT n Q P' → (Q.1 1).toInt < 100000 → RW n P' Y' ∧ Y' 4 5 = (tkE (rowP Q) (Q.1 3) (Q.1 2) n).foldl falE (Y 4 5) := by
  obtain ⟨Y', e1, e2, e3⟩ := tick9w (kc_ck hc X) h
  exact ⟨Y', by rw [uC_hl hc, e1, uC_hl hc], e2, e3⟩
/-- the copies made -/
def CP (X Y : LX) : Prop := Y 0 = X 0 ∧ (∀ i, i < 54 → Y 1 i = X 1 i) ∧ ∀ i, i < 6 → Y 4 i = X 4 i
theorem cp_row9 (h : CP X Y) {q : Nat} (hq : q < 6) : R6 (rowX X q) (rowX Y q) := by
  obtain ⟨h0, h1, h4⟩ := h
  intro k hk
  match k, hk with
  | 0, _ => exact (congrFun h0 _).symm
  | 1, _ => exact (congrFun h0 _).symm
  | 2, _ => exact (congrFun h0 _).symm
  | 3, _ => exact (congrFun h0 _).symm
  | 4, _ => exact (congrFun h0 _).symm
  | 5, _ => exact (congrFun h0 _).symm
  | 6, _ => exact (congrFun h0 _).symm
  | 7, _ => exact (h1 (9 * q) (by omega)).symm
  | 8, _ => rfl
  | 9, _ => exact (h1 (9 * q + 2) (by omega)).symm
  | 10, _ => exact (h1 (9 * q + 3) (by omega)).symm
  | 11, _ => exact (h1 (9 * q + 4) (by omega)).symm
  | 12, _ => exact (h1 (9 * q + 5) (by omega)).symm
  | 13, _ => exact (h1 (9 * q + 6) (by omega)).symm
  | 14, _ => exact (h1 (9 * q + 7) (by omega)).symm
  | 15, _ => exact (h1 (9 * q + 8) (by omega)).symm
  | k + 16, hk => exact absurd hk (by omega)
theorem CP_RW {P : PV} (h : RX n P X) (hc : CP X Y) : RW n P Y := by
  obtain ⟨hn6, h0, x0, x1, x2, hrow, hw, hlg, hwn, hok, htb⟩ := h
  refine ⟨hn6, h0, (hc.2.2 0 (by decide)).trans x0, (hc.2.2 1 (by decide)).trans x1, fun q hq => ?_, fun q hq => (hc.2.1 _ (by omega)).trans (hw q hq), hwn, hok, htb⟩
  rw [hrow q hq]
  exact cp_row9 hc (by omega)
variable {x y : Int32}
/-- what comes behind the copies -/
def dispA (rec27 : MH → Nat → Int32 → Int32 → Nat → Nat → Nat → Nat → Nat → Nat → Nat → Int32 → Option (Int32 × MH)) (x y : Int32) (c : Nat) (h : MH) (p : Int32) : Option (Int32 × MH) :=
  if p = (3 : Int32) then
    ((f_L_tick h 133 c (c + 1) (c + 2) (c + 3)).bind fun h34 => f_L_ahead_109 rec27 FU h34 0 x y 133 134 137 c (c + 1) (c + 2) (c + 3) p (1 : Int32) (0 : Int32))
  else
    (if p = (2 : Int32) then
      ((aI h 137 (0 : Int32)).bind fun v31 =>
      (f_L_at h x v31).bind fun v32 =>
      (f_L_at h (x >>> ((4 : Int32) &&& 31)) (3 : Int32)).bind fun v33 =>
      if v33 = 0 then
        (b_L_ahead_264 rec27 h 0 x y 133 134 137 c (c + 1) (c + 2) (c + 3) p v32 (1 : Int32) y (500 : Int32))
      else
        (b_L_ahead_264 rec27 h 0 x y 133 134 137 c (c + 1) (c + 2) (c + 3) p v32 (1 : Int32) y (30 : Int32)))
    else
      (if p = (1 : Int32) then (f_L_ahead_384 rec27 FU h 0 x y 133 134 137 c (c + 1) (c + 2) (c + 3) p (0 : Int32))
      else (b_L_ahead_410 rec27 h 0 x y 133 134 137 c (c + 1) (c + 2) (c + 3) p)))
theorem l_cp62 (hc : KC T c) (rec27 : MH → Nat → Int32 → Int32 → Nat → Nat → Nat → Nat → Nat → Nat → Nat → Int32 → Option (Int32 × MH)) (p : Int32) : ∀ (m k fuel : Nat) (Y : LX), k + m = 6 → m < fuel → ∃ Y', f_L_ahead_62 rec27 fuel (HT (uC T X c Y)) 0 x y 133 134 137 c (c + 1) (c + 2) (c + 3) p (nI k) = dispA rec27 x y c (HT (uC T X c Y')) p ∧ Y' 0 = Y 0 ∧ Y' 1 = Y 1 ∧ ∀ i, i < 6 → Y' 4 i = if k ≤ i then X 4 i else Y 4 i := by
  intro m
  induction m with
  | zero =>
    intro k fuel Y hk hf
    obtain ⟨fuel, rfl⟩ : ∃ f, fuel = f + 1 := ⟨fuel - 1, by omega⟩
    obtain rfl : k = 6 := by omega
    refine ⟨Y, ?_, rfl, rfl, fun i hi => (if_neg (by omega)).symm⟩
    show b_L_ahead_62 rec27 _ _ 0 x y 133 134 137 c (c + 1) (c + 2) (c + 3) p _ = _
    unfold b_L_ahead_62 dispA
    rw [if_pos (by decide)]
  | succ m ih =>
    intro k fuel Y hk hf
    obtain ⟨fuel, rfl⟩ : ∃ f, fuel = f + 1 := ⟨fuel - 1, by omega⟩
    obtain ⟨Y', g1, g2, g3, g4⟩ := ih (k + 1) fuel (ux Y 4 k (X 4 k)) (by omega) (by omega)
    refine ⟨Y', ?_, g2, g3, fun i hi => ?_⟩
    · rw [← g1]
      show b_L_ahead_62 rec27 _ _ 0 x y 133 134 137 c (c + 1) (c + 2) (c + 3) p _ = _
      unfold b_L_ahead_62
      rw [if_neg (by rw [show (6 : Int32) = nI 6 from rfl]; exact nI_ge (by omega) (by omega)), z_m4 hc, bd_nI (by omega) (by decide), obs, z_s4 hc, bd_nI (by omega) (by decide), obs, nI_1]
    · rw [g4 i hi, ux_44]
      by_cases h : i = k
      · rw [h, if_neg (by omega), upd_s, if_pos (Nat.le_refl _)]
      · rw [upd_n h]
        by_cases h2 : k + 1 ≤ i
        · rw [if_pos h2, if_pos (by omega)]
        · rw [if_neg h2, if_neg (by omega)]
theorem l_cp36 (hc : KC T c) (rec27 : MH → Nat → Int32 → Int32 → Nat → Nat → Nat → Nat → Nat → Nat → Nat → Int32 → Option (Int32 × MH)) (p : Int32) : ∀ (m k fuel : Nat) (Y : LX), k + m = 54 → m < fuel → ∃ Y', f_L_ahead_36 rec27 fuel (HT (uC T X c Y)) 0 x y 133 134 137 c (c + 1) (c + 2) (c + 3) p (nI k) = f_L_ahead_62 rec27 FU (HT (uC T X c Y')) 0 x y 133 134 137 c (c + 1) (c + 2) (c + 3) p 0 ∧ Y' 0 = Y 0 ∧ Y' 4 = Y 4 ∧ ∀ i, i < 54 → Y' 1 i = if k ≤ i then X 1 i else Y 1 i := by
  intro m
  induction m with
  | zero =>
    intro k fuel Y hk hf
    obtain ⟨fuel, rfl⟩ : ∃ f, fuel = f + 1 := ⟨fuel - 1, by omega⟩
    obtain rfl : k = 54 := by omega
    refine ⟨Y, ?_, rfl, rfl, fun i hi => (if_neg (by omega)).symm⟩
    show b_L_ahead_36 rec27 _ _ 0 x y 133 134 137 c (c + 1) (c + 2) (c + 3) p _ = _
    unfold b_L_ahead_36
    rw [if_pos (by decide)]
  | succ m ih =>
    intro k fuel Y hk hf
    obtain ⟨fuel, rfl⟩ : ∃ f, fuel = f + 1 := ⟨fuel - 1, by omega⟩
    obtain ⟨Y', g1, g2, g3, g4⟩ := ih (k + 1) fuel (ux Y 1 k (X 1 k)) (by omega) (by omega)
    refine ⟨Y', ?_, g2, g3, fun i hi => ?_⟩
    · rw [← g1]
      show b_L_ahead_36 rec27 _ _ 0 x y 133 134 137 c (c + 1) (c + 2) (c + 3) p _ = _
      unfold b_L_ahead_36
      rw [if_neg (by rw [show (54 : Int32) = nI 54 from rfl]; exact nI_ge (by omega) (by omega)), z_m1 hc, bd_nI (by omega) (by decide), obs, z_s1 hc, bd_nI (by omega) (by decide), obs, nI_1]
    · rw [g4 i hi, ux_11]
      by_cases h : i = k
      · rw [h, if_neg (by omega), upd_s, if_pos (Nat.le_refl _)]
      · rw [upd_n h]
        by_cases h2 : k + 1 ≤ i
        · rw [if_pos h2, if_pos (by omega)]
        · rw [if_neg h2, if_neg (by omega)]
theorem l_copies (hc : KC T c) (rec27 : MH → Nat → Int32 → Int32 → Nat → Nat → Nat → Nat → Nat → Nat → Nat → Int32 → Option (Int32 × MH)) (p : Int32) (h0 : Y 0 = X 0) : ∃ Y', f_L_ahead_36 rec27 FU (HT (uC T X c Y)) 0 x y 133 134 137 c (c + 1) (c + 2) (c + 3) p 0 = dispA rec27 x y c (HT (uC T X c Y')) p ∧ CP X Y' := by
  obtain ⟨Y1, a1, a2, a3, a4⟩ := l_cp36 (X := X) (x := x) (y := y) hc rec27 p 54 0 FU Y (by omega) (by rw [FU_eq]; omega)
  obtain ⟨Y2, b1, b2, b3, b4⟩ := l_cp62 (X := X) (x := x) (y := y) hc rec27 p 6 0 FU Y1 (by omega) (by rw [FU_eq]; omega)
  rw [show nI 0 = (0 : Int32) from rfl] at a1 b1
  refine ⟨Y2, a1.trans b1, (b2.trans a2).trans h0, fun i hi => ?_, fun i hi => ?_⟩
  · rw [b3, a4 i hi, if_pos (Nat.zero_le i)]
  · rw [b4 i hi, if_pos (Nat.zero_le i)]
