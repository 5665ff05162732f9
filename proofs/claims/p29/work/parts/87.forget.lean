/-! commands: forget -/
def hdF (f : Nat → Int32) : Nat → List (Nat → Int32) → Prop
  | _, [] => True
  | k, e :: L => (∀ i, i < 4 → f (4 * k + i) = e i) ∧ hdF f (k + 1) L
def noF : Nat → Int32 := fun _ => 0
theorem hd_congr {f g : Nat → Int32} : ∀ (L : List (Nat → Int32)) (k : Nat), (∀ y, 4 * k ≤ y → y < 4 * (k + L.length) → g y = f y) → hdF f k L → hdF g k L := by
  intro L
  induction L with
  | nil => exact fun _ _ _ => trivial
  | cons e L ih =>
    intro k h ⟨h1, h2⟩
    rw [List.length_cons] at h
    exact ⟨fun i hi => (h _ (by omega) (by omega)).trans (h1 i hi), ih (k + 1) (fun y y1 y2 => h y (by omega) (by omega)) h2⟩
theorem hd_get {f : Nat → Int32} : ∀ (L : List (Nat → Int32)) (k j i : Nat), hdF f k L → j < L.length → i < 4 → f (4 * (k + j) + i) = L.getD j noF i := by
  intro L
  induction L with
  | nil =>
    intro k j i _ h
    exact absurd h (by simp)
  | cons e L ih =>
    intro k j i ⟨h1, h2⟩ hj hi
    match j, hj with
    | 0, _ => exact h1 i hi
    | j + 1, hj =>
      rw [List.length_cons] at hj
      have := ih (k + 1) j i h2 (by omega) hi
      rw [show 4 * (k + (j + 1)) + i = 4 * (k + 1 + j) + i by omega, this]
      rfl
theorem hd_of {f : Nat → Int32} : ∀ (L : List (Nat → Int32)) (k : Nat), (∀ j i, j < L.length → i < 4 → f (4 * (k + j) + i) = L.getD j noF i) → hdF f k L := by
  intro L
  induction L with
  | nil => exact fun _ _ => trivial
  | cons e L ih =>
    intro k h
    refine ⟨fun i hi => h 0 i (by simp) hi, ih (k + 1) (fun j i hj hi => ?_)⟩
    have := h (j + 1) i (by rw [List.length_cons]; omega) hi
    rw [show 4 * (k + 1 + j) + i = 4 * (k + (j + 1)) + i by omega, this]
    rfl
def kpB (x : Int32) (e : Nat → Int32) : Bool := !decide (e 1 = x)
theorem wR_self (P : PV) : wR P 14 (P.2 14) = P := by
  unfold wR
  have : (fun j => if j = 14 then P.2 14 else P.2 j) = P.2 := by
    funext j
    by_cases h : j = 14
    · simp [h]
    · simp [h]
  rw [this]
theorem wR_wR (P : PV) (f g : Nat → Int32) : wR (wR P 14 f) 14 g = wR P 14 g := by
  unfold wR
  congr 1
  funext j
  by_cases h : j = 14
  · simp [h]
  · simp [h]
variable {G : GB} {b : Nat}
theorem a_remLoop (hb : b ≤ 122) {n : Nat} (hn : n ≤ 16) (x : Int32) : ∀ (L : List (Nat → Int32)) (kept back fuel : Nat) (P : PV), hdF (P.2 14) back L → kept ≤ back → back + L.length = n → P.1 4 = nI n → L.length < fuel →
    ∃ f', f_X0_removeRail_4 fuel (hp G b P) (b + 11) x (nI kept) (nI back) = some (nI n - nI (kept + (L.filter (kpB x)).length), hp G b (wS (wR P 14 f') 4 (nI (kept + (L.filter (kpB x)).length)))) ∧ (∀ i, i < 4 * kept → f' i = P.2 14 i) ∧ hdF f' kept (L.filter (kpB x)) := by
  intro L
  induction L with
  | nil =>
    intro kept back fuel P hd hkb hbn h4 hf
    obtain ⟨fuel, rfl⟩ : ∃ f, fuel = f + 1 := ⟨fuel - 1, by omega⟩
    rw [List.length_nil] at hbn
    refine ⟨P.2 14, ?_, fun _ _ => rfl, trivial⟩
    show b_X0_removeRail_4 _ _ _ _ _ _ = _
    unfold b_X0_removeRail_4
    rw [p_Il hb, obs, h4, if_pos (nI_le (by omega) (by omega)), obs, obs, p_Pl hb, obs, wR_self]
    rfl
  | cons e L ih =>
    intro kept back fuel P hd hkb hbn h4 hf
    obtain ⟨fuel, rfl⟩ : ∃ f, fuel = f + 1 := ⟨fuel - 1, by omega⟩
    rw [List.length_cons] at hbn hf
    obtain ⟨h1, h2⟩ := hd
    have e1 : P.2 14 (back * 4 + 1) = e 1 := by
      rw [Nat.mul_comm]
      exact h1 1 (by decide)
    have en : f_X0_numberAt (hp G b P) (b + 11) (nI back) 1 = some (e 1) := by
      unfold f_X0_numberAt
      rw [p_Rl hb, obs, p_a14 hb, ix4, ixa1, bd_nI (by omega) (by decide), obs, e1]
    have hwhole : f_X0_removeRail_4 (fuel + 1) (hp G b P) (b + 11) x (nI kept) (nI back) = if e 1 = x then f_X0_removeRail_4 fuel (hp G b P) (b + 11) x (nI kept) (nI (back + 1)) else f_X0_removeRail_4 fuel (hp G b (wR P 14 (va_cpy (P.2 14) (P.2 14) (back * 4) (kept * 4) 4))) (b + 11) x (nI (kept + 1)) (nI (back + 1)) := by
      show b_X0_removeRail_4 _ _ _ _ _ _ = _
      unfold b_X0_removeRail_4 b_X0_removeRail_43
      rw [p_Il hb, obs, h4, if_neg (nI_ge (by omega) (by omega)), p_v0 hb, en, obs, p_Rl hb, obs, obs, p_c14_14 hb (n := (4 : Int32)) (a := back * 4) (c := kept * 4) (m := 4) (ix4 _) (ix4 _) rfl (by omega) (by omega), obs, nI_1, nI_1]
    rw [hwhole]
    by_cases hc : e 1 = x
    · rw [if_pos hc]
      have ef : (e :: L).filter (kpB x) = L.filter (kpB x) := by
        rw [List.filter_cons, if_neg (by unfold kpB; rw [decide_eq_true hc]; decide)]
      rw [ef]
      exact ih kept (back + 1) fuel P h2 (by omega) (by omega) h4 (by omega)
    · rw [if_neg hc]
      have ef : (e :: L).filter (kpB x) = e :: L.filter (kpB x) := by
        rw [List.filter_cons, if_pos (by unfold kpB; rw [decide_eq_false hc]; decide)]
      have h2' : hdF ((wR P 14 (va_cpy (P.2 14) (P.2 14) (back * 4) (kept * 4) 4)).2 14) (back + 1) L := by
        refine hd_congr L (back + 1) (fun y y1 y2 => ?_) h2
        show va_cpy (P.2 14) (P.2 14) (back * 4) (kept * 4) 4 y = _
        unfold va_cpy
        rw [if_neg (by omega)]
      obtain ⟨f', g1, g2, g3⟩ := ih (kept + 1) (back + 1) fuel (wR P 14 (va_cpy (P.2 14) (P.2 14) (back * 4) (kept * 4) 4)) h2' (by omega) (by omega) h4 (by omega)
      have e2 : ∀ i, i < 4 * (kept + 1) → f' i = va_cpy (P.2 14) (P.2 14) (back * 4) (kept * 4) 4 i := g2
      rw [ef, List.length_cons]
      refine ⟨f', ?_, fun i hi => ?_, fun i hi => ?_, g3⟩
      · rw [g1, wR_wR, show kept + 1 + (L.filter (kpB x)).length = kept + ((L.filter (kpB x)).length + 1) by omega]
      · rw [e2 i (by omega)]
        unfold va_cpy
        rw [if_neg (by omega)]
      · rw [e2 _ (by omega)]
        unfold va_cpy
        rw [if_pos (by omega), show back * 4 + (4 * kept + i - kept * 4) = 4 * back + i by omega]
        exact h1 i hi
variable {T : TS}
