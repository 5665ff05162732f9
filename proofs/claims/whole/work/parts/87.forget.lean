/-! commands: forget -/
def hdF (f : Nat → Int32) : Nat → List (Nat → Int32) → Prop
  | _, [] => True
  | k, e :: L => (∀ i, i < 4 → f (4 * k + i) = e i) ∧ hdF f (k + 1) L
def noF : Nat → Int32 := fun _ => 0
theorem hd_congr {f g : Nat → Int32} : ∀ (L : List (Nat → Int32)) (k : Nat), (∀ y, 4 * k ≤ y → y < 4 * (k + L.length) → g y = f y) → hdF f k L → hdF g k L := by
  intro L
  induction L with
  | nil => exact fun _ _ _ => trivial
  | cons e L ih =>
    intro k h ⟨h1, h2⟩
    rw [List.length_cons] at h
    exact ⟨fun i hi => (h _ (by omega) (by omega)).trans (h1 i hi), ih (k + 1) (fun y y1 y2 => h y (by omega) (by omega)) h2⟩
theorem hd_get {f : Nat → Int32} : ∀ (L : List (Nat → Int32)) (k j i : Nat), hdF f k L → j < L.length → i < 4 → f (4 * (k + j) + i) = L.getD j noF i := by
  intro L
  induction L with
  | nil =>
    intro k j i _ h
    exact absurd h (by simp)
  | cons e L ih =>
    intro k j i ⟨h1, h2⟩ hj hi
    match j, hj with
    | 0, _ => exact h1 i hi
    | j + 1, hj =>
      rw [List.length_cons] at hj
      have := ih (k + 1) j i h2 (by omega) hi
      rw [show 4 * (k + (j + 1)) + i = 4 * (k + 1 + j) + i by omega, this]
      rfl
theorem hd_of {f : Nat → Int32} : ∀ (L : List (Nat → Int32)) (k : Nat), (∀ j i, j < L.length → i < 4 → f (4 * (k + j) + i) = L.getD j noF i) → hdF f k L := by
  intro L
  induction L with
  | nil => exact fun _ _ => trivial
  | cons e L ih =>
    intro k h
    refine ⟨fun i hi => h 0 i (by simp) hi, ih (k + 1) (fun j i hj hi => ?_)⟩
    have := h (j + 1) i (by rw [List.length_cons]; omega) hi
    rw [show 4 * (k + 1 + j) + i = 4 * (k + (j + 1)) + i by omega, this]
    rfl
def kpB (x : Int32) (e : Nat → Int32) : Bool := !decide (e 1 = x)
theorem wR_self (P : PV) : wR P 14 (P.2 14) = P := by
  unfold wR
  have : (fun j => if j = 14 then P.2 14 else P.2 j) = P.2 := by
    funext j
    by_cases h : j = 14
    · simp [h]
    · simp [h]
  rw [this]
theorem wR_wR (P : PV) (f g : Nat → Int32) : wR (wR P 14 f) 14 g = wR P 14 g := by
  unfold wR
  congr 1
  funext j
  by_cases h : j = 14
  · simp [h]
  · simp [h]
variable {G : Nat → MC} {b : Nat}
theorem a_remLoop (hb : b ≤ 125) {n : Nat} (hn : n ≤ 16) (x : Int32) : ∀ (L : List (Nat → Int32)) (kept back fuel : Nat) (P : PV), hdF (P.2 14) back L → kept ≤ back → back + L.length = n → P.1 4 = nI n → L.length < fuel →
    ∃ f', f_X0_removeRail_4 fuel (hp G b P) (b + 11) x (nI kept) (nI back) = some (nI n - nI (kept + (L.filter (kpB x)).length), hp G b (wS (wR P 14 f') 4 (nI (kept + (L.filter (kpB x)).length)))) ∧ (∀ i, i < 4 * kept → f' i = P.2 14 i) ∧ hdF f' kept (L.filter (kpB x)) := by
  intro L
  induction L with
  | nil =>
    intro kept back fuel P hd hkb hbn h4 hf
    obtain ⟨fuel, rfl⟩ : ∃ f, fuel = f + 1 := ⟨fuel - 1, by omega⟩
    rw [List.length_nil] at hbn
    refine ⟨P.2 14, ?_, fun _ _ => rfl, trivial⟩
    show b_X0_removeRail_4 _ _ _ _ _ _ = _
    unfold b_X0_removeRail_4
    rw [p_Il hb, obs, h4, if_pos (nI_le (by omega) (by omega)), obs, obs, p_Pl hb, obs, wR_self]
    rfl
  | cons e L ih =>
    intro kept back fuel P hd hkb hbn h4 hf
    obtain ⟨fuel, rfl⟩ : ∃ f, fuel = f + 1 := ⟨fuel - 1, by omega⟩
    rw [List.length_cons] at hbn hf
    obtain ⟨h1, h2⟩ := hd
    have e1 : P.2 14 (back * 4 + 1) = e 1 := by
      rw [Nat.mul_comm]
      exact h1 1 (by decide)
    have en : f_X0_numberAt (hp G b P) (b + 11) (nI back) 1 = some (e 1) := by
      unfold f_X0_numberAt
      rw [p_Rl hb, obs, p_a14 hb, ix4, ixa1, bd_nI (by omega) (by decide), obs, e1]
    have hwhole : f_X0_removeRail_4 (fuel + 1) (hp G b P) (b + 11) x (nI kept) (nI back) = if e 1 = x then f_X0_removeRail_4 fuel (hp G b P) (b + 11) x (nI kept) (nI (back + 1)) else f_X0_removeRail_4 fuel (hp G b (wR P 14 (va_cpy (P.2 14) (P.2 14) (back * 4) (kept * 4) 4))) (b + 11) x (nI (kept + 1)) (nI (back + 1)) := by
      show b_X0_removeRail_4 _ _ _ _ _ _ = _
      unfold b_X0_removeRail_4 b_X0_removeRail_43
      rw [p_Il hb, obs, h4, if_neg (nI_ge (by omega) (by omega)), p_v0 hb, en, obs, p_Rl hb, obs, obs, p_c14_14 hb (n := (4 : Int32)) (a := back * 4) (c := kept * 4) (m := 4) (ix4 _) (ix4 _) rfl (by omega) (by omega), obs, nI_1, nI_1]
    rw [hwhole]
    by_cases hc : e 1 = x
    · rw [if_pos hc]
      have ef : (e :: L).filter (kpB x) = L.filter (kpB x) := by
        rw [List.filter_cons, if_neg (by unfold kpB; rw [decide_eq_true hc]; decide)]
      rw [ef]
      exact ih kept (back + 1) fuel P h2 (by omega) (by omega) h4 (by omega)
    · rw [if_neg hc]
      have ef : (e :: L).filter (kpB x) = e :: L.filter (kpB x) := by
        rw [List.filter_cons, if_pos (by unfold kpB; rw [decide_eq_false hc]; decide)]
      have h2' : hdF ((wR P 14 (va_cpy (P.2 14) (P.2 14) (back * 4) (kept * 4) 4)).2 14) (back + 1) L := by
        refine hd_congr L (back + 1) (fun y y1 y2 => ?_) h2
        show va_cpy (P.2 14) (P.2 14) (back * 4) (kept * 4) 4 y = _
        unfold va_cpy
        rw [if_neg (by omega)]
      obtain ⟨f', g1, g2, g3⟩ := ih (kept + 1) (back + 1) fuel (wR P 14 (va_cpy (P.2 14) (P.2 14) (back * 4) (kept * 4) 4)) h2' (by omega) (by omega) h4 (by omega)
      have e2 : ∀ i, i < 4 * (kept + 1) → f' i = va_cpy (P.2 14) (P.2 14) (back * 4) (kept * 4) 4 i := g2
      rw [ef, List.length_cons]
      refine ⟨f', ?_, fun i hi => ?_, fun i hi => ?_, g3⟩
      · rw [g1, wR_wR, show kept + 1 + (L.filter (kpB x)).length = kept + ((L.filter (kpB x)).length + 1) by omega]
      · rw [e2 i (by omega)]
        unfold va_cpy
        rw [if_neg (by omega)]
      · rw [e2 _ (by omega)]
        unfold va_cpy
        rw [if_pos (by omega), show back * 4 + (4 * kept + i - kept * 4) = 4 * back + i by omega]
        exact h1 i hi
def cpZ (z : Nat → Int32) (l k j : Nat) : Nat → Int32 := fun i => if 4 + 4 * l ≤ i ∧ i < 4 + 4 * l + j then z (i - (4 + 4 * l) + (4 + 4 * k)) else z i
theorem cpZ_step (z : Nat → Int32) {l k j : Nat} (h : l ≤ k) : upd (cpZ z l k j) (4 + 4 * l + j) (cpZ z l k j (4 + 4 * k + j)) = cpZ z l k (j + 1) := by
  funext i
  have e : cpZ z l k j (4 + 4 * k + j) = z (4 + 4 * k + j) := by
    unfold cpZ
    rw [if_neg (by omega)]
  rw [e]
  unfold upd cpZ
  by_cases hi : i = 4 + 4 * l + j
  · rw [if_pos hi, if_pos (by omega), hi, show 4 + 4 * l + j - (4 + 4 * l) + (4 + 4 * k) = 4 + 4 * k + j by omega]
  · rw [if_neg hi]
    by_cases h2 : 4 + 4 * l ≤ i ∧ i < 4 + 4 * l + j
    · rw [if_pos h2, if_pos (by omega)]
    · rw [if_neg h2, if_neg (by omega)]
theorem cpZ_0 (z : Nat → Int32) (l k : Nat) : cpZ z l k 0 = z := by
  funext i
  unfold cpZ
  rw [if_neg (by omega)]
theorem z_copy4 (hb : b ≤ 134) {M : MV} {z : Nat → Int32} {l k : Nat} (hl : l ≤ k) (hk : k < 16) (x many : Int32) (rec42 : MH → Nat → Int32 → Int32 → Int32 → Int32 → Option (Int32 × MH)) : ∀ (m j fuel : Nat), j + m = 4 → m < fuel → f_X4_forget_68 rec42 fuel (hm G b (wZ M (cpZ z l k j))) b x (nI l) many (nI k) (nI j) = rec42 (hm G b (wZ M (cpZ z l k 4))) b x (nI (l + 1)) many (nI (k + 1)) := by
  intro m
  induction m with
  | zero =>
    intro j fuel hj hf
    obtain ⟨fuel, rfl⟩ : ∃ f, fuel = f + 1 := ⟨fuel - 1, by omega⟩
    obtain rfl : j = 4 := by omega
    show b_X4_forget_68 _ _ _ _ _ _ _ _ _ = _
    unfold b_X4_forget_68 b_X4_forget_110
    rw [if_pos (by rw [show (4 : Int32) = nI 4 from rfl]; exact nI_le (by omega) (by omega)), nI_1, nI_1]
  | succ m ih =>
    intro j fuel hj hf
    obtain ⟨fuel, rfl⟩ : ∃ f, fuel = f + 1 := ⟨fuel - 1, by omega⟩
    show b_X4_forget_68 _ _ _ _ _ _ _ _ _ = _
    unfold b_X4_forget_68
    rw [if_neg (by rw [show (4 : Int32) = nI 4 from rfl]; exact nI_ge (by omega) (by omega)), m_R1 hb, obs, obs, m_a1 hb, ix4l, ix4p, nI_add, bd_nI (by omega) (by decide), obs, m_s1 hb, ix4l, ix4p, nI_add, bd_nI (by omega) (by decide), obs, mA_wZ, wZ_wZ, wZ_z, cpZ_step _ hl, nI_1]
    exact ih (j + 1) fuel (by omega) (by omega)
theorem z_forLoop (hb : b ≤ 134) {M : MV} {n : Nat} (hn : n ≤ 16) (x : Int32) : ∀ (L : List (Nat → Int32)) (left k fuel : Nat) (z : Nat → Int32), hdF (fun i => z (4 + i)) k L → left ≤ k → k + L.length = n → L.length < fuel →
    ∃ z', f_X4_forget_42 fuel (hm G b (wZ M z)) b x (nI left) (nI n) (nI k) = some (nI n - nI (left + (L.filter (kpB x)).length), hm G b (wZ M (upd z' 3 (nI (left + (L.filter (kpB x)).length))))) ∧ (∀ i, i < 4 + 4 * left ∨ 68 ≤ i → z' i = z i) ∧ hdF (fun i => z' (4 + i)) left (L.filter (kpB x)) := by
  intro L
  induction L with
  | nil =>
    intro left k fuel z hd hlk hkn hf
    obtain ⟨fuel, rfl⟩ : ∃ f, fuel = f + 1 := ⟨fuel - 1, by omega⟩
    rw [List.length_nil] at hkn
    refine ⟨z, ?_, fun _ _ => rfl, trivial⟩
    show b_X4_forget_42 _ _ _ _ _ _ _ = _
    unfold b_X4_forget_42
    rw [if_pos (nI_le (by omega) (by omega)), m_R1 hb, obs, m_s1 hb, b228_3, obs, mA_wZ, wZ_wZ, wZ_z]
    rfl
  | cons e L ih =>
    intro left k fuel z hd hlk hkn hf
    obtain ⟨fuel, rfl⟩ : ∃ f, fuel = f + 1 := ⟨fuel - 1, by omega⟩
    rw [List.length_cons] at hkn hf
    obtain ⟨h1, h2⟩ := hd
    have e1 : z (4 + 4 * k + 1) = e 1 := by
      rw [← h1 1 (by decide), Nat.add_assoc]
    have c0 := z_copy4 (G := G) hb (M := M) (z := z) hlk (show k < 16 by omega) x (nI n) (f_X4_forget_42 fuel) 4 0 FU (by omega) (by rw [FU_eq]; omega)
    rw [cpZ_0, show nI 0 = (0 : Int32) from rfl] at c0
    have hwhole : f_X4_forget_42 (fuel + 1) (hm G b (wZ M z)) b x (nI left) (nI n) (nI k) = if e 1 = x then f_X4_forget_42 fuel (hm G b (wZ M z)) b x (nI left) (nI n) (nI (k + 1)) else f_X4_forget_42 fuel (hm G b (wZ M (cpZ z left k 4))) b x (nI (left + 1)) (nI n) (nI (k + 1)) := by
      show b_X4_forget_42 _ _ _ _ _ _ _ = _
      unfold b_X4_forget_42 b_X4_forget_110
      rw [if_neg (nI_ge (by omega) (by omega)), m_R1 hb, obs, m_a1 hb, ix4l, ix4p, ixa1, bd_nI (by omega) (by decide), obs, wZ_z, e1, c0, nI_1]
    rw [hwhole]
    by_cases hc : e 1 = x
    · rw [if_pos hc]
      have ef : (e :: L).filter (kpB x) = L.filter (kpB x) := by
        rw [List.filter_cons, if_neg (by unfold kpB; rw [decide_eq_true hc]; decide)]
      rw [ef]
      exact ih left (k + 1) fuel z h2 (by omega) (by omega) (by omega)
    · rw [if_neg hc]
      have ef : (e :: L).filter (kpB x) = e :: L.filter (kpB x) := by
        rw [List.filter_cons, if_pos (by unfold kpB; rw [decide_eq_false hc]; decide)]
      have h2' : hdF (fun i => cpZ z left k 4 (4 + i)) (k + 1) L := by
        refine hd_congr L (k + 1) (fun y y1 y2 => ?_) h2
        show cpZ z left k 4 (4 + y) = z (4 + y)
        unfold cpZ
        rw [if_neg (by omega)]
      obtain ⟨z', g1, g2, g3⟩ := ih (left + 1) (k + 1) fuel (cpZ z left k 4) h2' (by omega) (by omega) (by omega)
      rw [ef, List.length_cons]
      refine ⟨z', ?_, fun i hi => ?_, fun i hi => ?_, g3⟩
      · rw [g1, show left + 1 + (L.filter (kpB x)).length = left + ((L.filter (kpB x)).length + 1) by omega]
      · rw [g2 i (by omega)]
        unfold cpZ
        rw [if_neg (by omega)]
      · show z' (4 + (4 * left + i)) = e i
        rw [g2 _ (by omega)]
        unfold cpZ
        rw [if_pos (by omega), show 4 + (4 * left + i) - (4 + 4 * left) + (4 + 4 * k) = 4 + (4 * k + i) by omega]
        exact h1 i hi
theorem RZ_log {n : Nat} {P P' : PV} {z z' : Nat → Int32} (h : RZ n P z) (hz : ∀ i, i < 3 ∨ 68 ≤ i → z' i = z i) (e0 : P'.1 0 = P.1 0) (e1 : P'.1 1 = P.1 1) (e2 : P'.1 2 = P.1 2) (e3 : P'.1 3 = P.1 3) (er : rowP P' = rowP P) (hl : LRel (lgP P') z') : RZ n P' z' := by
  obtain ⟨hn8, h0, z0, z1, z2, hrow, hw, _, hwn, hok⟩ := h
  refine ⟨hn8, e0.trans h0, (hz 0 (by omega)).trans z0, by rw [hz 1 (by omega), e2]; exact z1, by rw [hz 2 (by omega), e1]; exact z2, fun q hq => ?_, fun q hq => ?_, hl, by rw [e3]; exact hwn, fun q hq => by rw [er]; exact hok q hq⟩
  · rw [er, row_hi (fun i hi => hz i (Or.inr hi))]
    exact hrow q hq
  · rw [hz _ (by omega), e3]
    exact hw q hq
theorem z_for14 (hb : b ≤ 134) {M : MV} (x c : Int32) : b_X4_forget_14 (hm G b M) b x b c = if c ≤ 0 then (f_X4_save (hm G b (mS M 0 c)) b).bind (fun h11 => (hR h11 4 b 1).bind fun v12 => (aI h11 v12 (3 : Int32)).bind fun v13 => f_X4_forget_42 FU h11 b x (0 : Int32) v13 (0 : Int32)) else some (0, hm G b (mS M 0 c)) := by
  unfold b_X4_forget_14
  simp only [m_P0 hb, m_I0 hb, m_v hb, obs, mS_0]
variable {T : TS}
theorem getD_rng (g : Nat → Nat → Int32) {n j : Nat} (h : j < n) : ((List.range n).map g).getD j noF = g j := by
  rw [List.getD_eq_getElem?_getD, List.getElem?_map, List.getElem?_range h]
  rfl
theorem getD_rev (L : List (Nat → Int32)) {j : Nat} (h : j < L.length) : L.reverse.getD j noF = L.getD (L.length - 1 - j) noF := by
  rw [List.getD_eq_getElem?_getD, List.getD_eq_getElem?_getD, List.getElem?_reverse h]
theorem op_forget {n s : Nat} (h : INV T n s) (x : Int32) : OKc T (f_L_forget (HT T) 0 x 140) (fun h => vcall h 4 133 (f_X4_forget h 133 x)) := by
  have h' := h
  obtain ⟨hs, hS, hM, hσ, hz, ha, hv, hbf⟩ := h'
  have hz' := hz
  obtain ⟨hn8, h0, z0, z1, z2, hrow, hw, hl, hwn, hok⟩ := hz'
  have hb : 133 ≤ 134 := by decide
  unfold f_L_forget
  rw [t_v3]
  rcases rail_cases hn8 x with ⟨r, hr, rfl⟩ | hx
  · have hR := rail_not hn8 hr
    obtain ⟨l, hl16, l1, l2, l3⟩ := hl
    have l1 : (T.1.2.2 0).1 4 = nI l := l1
    have l3 : ∀ j i, j < l → i < 4 → (T.1.2.2 0).2 14 (4 * j + i) = T.2.2.1.2 1 (4 + 4 * (l - 1 - j) + i) := l3
    obtain ⟨L, hL⟩ : ∃ L, L = (List.range l).map (fun j i => (T.1.2.2 0).2 14 (4 * j + i)) := ⟨_, rfl⟩
    have hlen : L.length = l := by rw [hL, List.length_map, List.length_range]
    have hd1 : hdF ((T.1.2.2 0).2 14) 0 L := by
      refine hd_of L 0 (fun j i hj hi => ?_)
      rw [hL, getD_rng _ (by omega), Nat.zero_add]
    have hd2 : hdF (fun i => T.2.2.1.2 1 (4 + i)) 0 L.reverse := by
      refine hd_of L.reverse 0 (fun j i hj hi => ?_)
      rw [List.length_reverse] at hj
      rw [getD_rev L hj, hlen, hL, getD_rng _ (by omega), Nat.zero_add]
      show T.2.2.1.2 1 (4 + (4 * j + i)) = _
      rw [l3 (l - 1 - j) i (by omega) hi, show l - 1 - (l - 1 - j) = j by omega, Nat.add_assoc]
    obtain ⟨f', c1, c2, c3⟩ := a_remLoop (G := gT (svT T s)) (b := 1) (by decide) hl16 (nI r) L 0 0 FU (T.1.2.2 0) hd1 (by omega) (by omega) l1 (by rw [FU_eq]; omega)
    rw [Nat.zero_add, show nI 0 = (0 : Int32) from rfl] at c1
    have e1 : f_X3_forget (HT T) 0 (nI r) = some (.inr (nI l - nI (L.filter (kpB (nI r))).length, HT (uP (svT T s) 0 (wS (wR (T.1.2.2 0) 14 f') 4 (nI (L.filter (kpB (nI r))).length))))) := by
      unfold f_X3_forget f_X0_removeRail
      rw [t_v3, c_isRail h0, obs, if_neg hR, if_neg n10, t_v3, t_save T hs hS hσ, obs, t_R0, obs, q_R14, obs, q_v0, HT0 (svT T s), sv_pl T hσ, c1, obs, hp0]
    rw [e1]
    refine OK_do1 h (a := nI l - nI (L.filter (kpB (nI r))).length) (P' := wS (wR (T.1.2.2 0) 14 f') 4 (nI (L.filter (kpB (nI r))).length)) ?_ (fun G => ?_)
    · rw [obs, Sum.elim_inr, t_sL, obs]
      rfl
    · obtain ⟨z', g1, g2, g3⟩ := z_forLoop (G := G) (b := 133) hb (M := sM T.2.2.1 s) hl16 (nI r) L.reverse 0 0 FU (T.2.2.1.2 1) hd2 (by omega) (by rw [List.length_reverse]; omega) (by rw [List.length_reverse, FU_eq]; omega)
      rw [List.filter_reverse, List.length_reverse, Nat.zero_add, show nI 0 = (0 : Int32) from rfl, show wZ (sM T.2.2.1 s) (T.2.2.1.2 1) = sM T.2.2.1 s from wZ_self (sM T.2.2.1 s)] at g1
      rw [List.filter_reverse] at g3
      have hfl : (L.filter (kpB (nI r))).length ≤ l := by rw [← hlen]; exact List.length_filter_le _ _
      have hLR : LRel (lgP (wS (wR (T.1.2.2 0) 14 f') 4 (nI (L.filter (kpB (nI r))).length))) (upd z' 3 (nI (L.filter (kpB (nI r))).length)) := by
        refine ⟨(L.filter (kpB (nI r))).length, by omega, rfl, upd_s, fun j i hj hi => ?_⟩
        show f' (4 * j + i) = _
        have a1 := hd_get _ 0 j i c3 hj hi
        have a2 := hd_get _ 0 ((L.filter (kpB (nI r))).length - 1 - j) i g3 (by rw [List.length_reverse]; omega) hi
        rw [Nat.zero_add] at a1 a2
        rw [getD_rev _ (by omega), show (L.filter (kpB (nI r))).length - 1 - ((L.filter (kpB (nI r))).length - 1 - j) = j by omega] at a2
        rw [a1, upd_n (by omega), ← a2, Nat.add_assoc]
      have hrz : RZ n (wS (wR (T.1.2.2 0) 14 f') 4 (nI (L.filter (kpB (nI r))).length)) (upd z' 3 (nI (L.filter (kpB (nI r))).length)) := RZ_log hz (fun i hi => by rw [upd_n (by omega)]; exact g2 i (by omega)) rfl rfl rfl rfl (by rw [rw_S, rw_R _ _ _ (by decide)]) hLR
      refine ⟨wZ (sM T.2.2.1 s) (upd z' 3 (nI (L.filter (kpB (nI r))).length)), n, ?_, rfl, hrz, ⟨ha.1, fun q hq => by rw [rw_S, rw_R _ _ _ (by decide)]; exact ha.2 q hq⟩, rfl, rfl, rfl, rfl⟩
      unfold f_X4_forget
      rw [m_v hb, z_isRail hb z0 hn8, obs, if_neg hR, if_neg n10, z_for14 hb, if_pos (by decide), z_saveT hb hs hM, obs, m_R1 hb, obs, m_a1 hb, b228_3, obs, show (sM T.2.2.1 s).2 1 3 = nI l from l2]
      exact g1
  · have e1 : f_X3_forget (HT T) 0 x = some (.inl (2, HT T)) := by
      unfold f_X3_forget
      rw [t_v3, c_isRail h0, obs, if_pos hx, if_pos rfl]
    rw [e1]
    refine OK_no h (c := 1) (by decide) rfl (fun G => ?_)
    unfold f_X4_forget
    rw [m_v hb, z_isRail hb z0 hn8, obs, if_pos hx, if_pos rfl, z_for14 hb, if_neg (by decide)]
