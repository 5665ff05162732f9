/-! the law -/
variable {T : TS} {X : LX} {n s : Nat}
theorem act_any (h : RLT T X n s) (hz : Z0 n X) (hl : 138 + T.2.2.1 < 1000) (ht : ((T.1.2.2 0).1 1).toInt + 60 ≤ 20000) (hn1 : 1 ≤ n) {a x y : Nat} (ha : a < 18) (hx : x < 2 ^ 31) (hy : y < 2 ^ 31) : AR T X n s (f_L_act (HT (uL T 134 X)) 0 (nI a) (nI x) (nI y) 133 134 135 136 137) := by
  have add : ∀ q : Int32, ¬ (2 : Int32) ≤ q → AR T X n s (f_L_act (HT (uL T 134 X)) 0 q (nI x) (nI y) 133 134 135 136 137) := by
    intro q hq
    by_cases h6 : n < 6
    · obtain ⟨T', X', s', e, r, l, s1, _, t, f⟩ := act_add h h6 hz hl hq hx hy
      exact ⟨T', X', n + 1, s', e, r, l, Nat.le_succ n, s1, t, f⟩
    · have hn : n = 6 := by have := h.1.1; omega
      refine AR_same h ?_
      unfold f_L_act
      rw [if_neg hq, y_a4, l6_0, obs, h.1.2.2.1, hn, if_pos (by decide), i1]
  match a, ha with
  | 0, _ => exact add _ (by decide)
  | 1, _ => exact add _ (by decide)
  | 2, _ => exact act_tick h ht (by decide) (by decide) hx hy
  | 3, _ => exact act_tick h ht (by decide) (by decide) hx hy
  | 4, _ => exact act_tick h ht (by decide) (by decide) hx hy
  | 5, _ => exact act_tick h ht (by decide) (by decide) hx hy
  | 6, _ => exact act_tick h ht (by decide) (by decide) hx hy
  | 7, _ => exact act_on h (Or.inl rfl) hx hy
  | 8, _ => exact act_on h (Or.inr rfl) hx hy
  | 9, _ => exact act_off h hx hy
  | 10, _ => exact act_10 h hn1 hx
  | 11, _ => exact act_11 h hn1 hx hy
  | 12, _ => exact act_12 h hn1 hx hy
  | 13, _ => exact act_set h hn1 (Or.inl rfl) hx hy
  | 14, _ => exact act_set h hn1 (Or.inr rfl) hx hy
  | 15, _ => exact act_15 h hn1 hx hy
  | 16, _ => exact act_16n h hn1 hx hy
  | 17, _ => exact act_17 h hn1 hx
  | q + 18, hq => exact absurd hq (by omega)
theorem l_cell (L : Nat) (xs : Nat → Int32) (hL : L ≤ 260) (h : MH) {i : Nat} (hi : i < 100) : ∃ v, v < 2 ^ 31 ∧ (f_L_cell (L, xs) h (nI i)).bind (fun u => some (u &&& (2147483647 : Int32))) = some (nI v) := by
  have key : ∀ u : Int32, ∃ v, v < 2 ^ 31 ∧ u &&& (2147483647 : Int32) = nI v := by
    intro u
    refine ⟨(u &&& (2147483647 : Int32)).toBitVec.toNat, ?_, (nI_nat _).symm⟩
    show (u.toBitVec &&& (2147483647 : Int32).toBitVec).toNat < _
    rw [BitVec.toNat_and]
    exact Nat.lt_of_le_of_lt Nat.and_le_right (by decide)
  have k2 : ∃ u, f_L_cell (L, xs) h (nI i) = some u := by
    unfold f_L_cell b_L_cell_18
    by_cases hl : (Int32.ofNat (L, xs).1) ≤ nI i
    · rw [if_pos hl]
      exact ⟨_, rfl⟩
    · rw [if_neg hl]
      have hl : ¬ nI L ≤ nI i := hl
      rw [nI_leI (by omega) (by omega)] at hl
      exact ⟨xs i, by rw [show rA (L, xs).1 (L, xs).2 (nI i) = some (xs i) from rA_nI (n := L) (by omega) (by omega), obs]⟩
  obtain ⟨u, hu⟩ := k2
  obtain ⟨v, v1, v2⟩ := key u
  exact ⟨v, v1, by rw [hu, obs, v2]⟩
/-- what holds before turn k -/
def LI (k : Nat) (T : TS) (X : LX) : Prop := ∃ n s, RLT T X n s ∧ Z0 n X ∧ (k ≤ 3 → n = k) ∧ (3 ≤ k → 3 ≤ n) ∧ (1 ≤ k → 1 ≤ s) ∧ ((T.1.2.2 0).1 1).toInt ≤ ((60 * k : Nat) : Int) ∧ T.2.2.1 ≤ 5 * k
theorem Z0_fr {n n' : Nat} {X X' : LX} (h : Z0 n X) (hn : n ≤ n') (hf : ∀ q, n' ≤ q → rowX X' q = rowX X q) : Z0 n' X' := by
  intro q hq i hi
  rw [hf q hq]
  exact h q (by omega) i hi
theorem LI_act {k : Nat} (hk : k < 24) (h : LI k T X) {a : Nat} (hA : (k < 3 ∧ a = 0) ∨ (3 ≤ k ∧ a < 18)) {x y : Nat} (hx : x < 2 ^ 31) (hy : y < 2 ^ 31) (h3 : k = 3 → 2 ≤ a) : ∃ T' X' n' s', f_L_act (HT (uL T 134 X)) 0 (nI a) (nI x) (nI y) 133 134 135 136 137 = some (1, HT (uL T' 134 X')) ∧ RLT T' X' n' s' ∧ Z0 n' X' ∧ (k + 1 ≤ 3 → n' = k + 1) ∧ (3 ≤ k + 1 → 3 ≤ n') ∧ 1 ≤ s' ∧ ((T'.1.2.2 0).1 1).toInt ≤ ((60 * (k + 1) : Nat) : Int) ∧ T'.2.2.1 ≤ 5 * k + 1 := by
  obtain ⟨n, s, hr, hz, k1, k2, k3, ht, hl⟩ := h
  rcases hA with ⟨hk3, rfl⟩ | ⟨hk3, ha⟩
  · have hn := k1 (by omega)
    obtain ⟨T', X', s', e, r, l, s1, s2, t, f⟩ := act_add hr (show n < 6 by omega) hz (by omega) (a := nI 0) (by decide) hx hy
    exact ⟨T', X', n + 1, s', e, r, Z0_fr hz (Nat.le_succ n) f, fun _ => by omega, fun _ => by omega, s2, by omega, by omega⟩
  · have hn := k2 hk3
    have hs := k3 (by omega)
    obtain ⟨T', X', n', s', e, r, l, n1, s1, t, f⟩ := act_any hr hz (by omega) (by omega) (by omega) ha hx hy
    exact ⟨T', X', n', s', e, r, Z0_fr hz n1 f, fun _ => by omega, fun _ => by omega, by omega, by omega, by omega⟩
theorem law_turn (L : Nat) (xs : Nat → Int32) {k fuel : Nat} (hk : k < 24) (h : LI k T X) {a : Nat} (hA : (k < 3 ∧ a = 0) ∨ (3 ≤ k ∧ a < 18)) {x y : Nat} (hx : x < 2 ^ 31) (hy : y < 2 ^ 31) (h3 : k = 3 → 2 ≤ a) (next : ∀ T' X', LI (k + 1) T' X' → f_L_law_71 (L, xs) fuel (HT (uL T' 134 X')) 0 133 134 135 136 137 (nI (k + 1)) = some 1) : b_L_law_138 (L, xs) (f_L_law_71 (L, xs) fuel) (HT (uL T 134 X)) 0 133 134 135 136 137 (nI k) (nI x) (nI y) 0 (nI a) = some 1 := by
  obtain ⟨T', X', n', s', e, r, z, k1, k2, k3, t, l⟩ := LI_act hk h hA hx hy h3
  have e6 : firem (nI k) 6 = some (nI (k % 6)) := i_mod (c := 6) (by omega) (by decide) (by decide)
  have ex : nI x >>> ((2 : Int32) &&& 31) = nI (x / 4) := pk_shrN hx _ 2 (by decide)
  have ey : nI y >>> ((2 : Int32) &&& 31) = nI (y / 4) := pk_shrN hy _ 2 (by decide)
  unfold b_L_law_138 b_L_law_203
  rw [e, obs, if_neg (show ¬ (1 : Int32) = 0 by decide), told r, obs, if_neg (show ¬ (1 : Int32) = 0 by decide), e6, obs, ex, ey, nI_1]
  by_cases h5 : nI (k % 6) = 5
  · rw [if_pos h5]
    have hk5 : 3 ≤ n' := by
      refine k2 ?_
      rw [show (5 : Int32) = nI 5 from rfl, nI_eq (by omega) (by omega)] at h5
      omega
    obtain ⟨T2, b1, b2, b3, b4⟩ := v_ahead r (by omega) (by omega) (show y / 4 < 2 ^ 31 by omega) (show x / 4 < 2 ^ 31 by omega)
    rw [b1, obs, if_neg (show ¬ (1 : Int32) = 0 by decide)]
    exact next T2 X' ⟨n', s', b2, z, k1, k2, fun _ => k3, by rw [b4]; exact t, by omega⟩
  · rw [if_neg h5]
    exact next T' X' ⟨n', s', r, z, k1, k2, fun _ => k3, t, by omega⟩
theorem law_loop (L : Nat) (xs : Nat → Int32) (hL : L ≤ 260) : ∀ (m k fuel : Nat) (T : TS) (X : LX), k + m = 24 → LI k T X → m < fuel → f_L_law_71 (L, xs) fuel (HT (uL T 134 X)) 0 133 134 135 136 137 (nI k) = some 1 := by
  intro m
  induction m with
  | zero =>
    intro k fuel T X hk h hf
    obtain ⟨fuel, rfl⟩ : ∃ f, fuel = f + 1 := ⟨fuel - 1, by omega⟩
    obtain ⟨n, s, hr, hz, k1, k2, k3, ht, hl⟩ := h
    have hs := k3 (by omega)
    have hs6 := hr.2.1.1
    have hn6 := hr.1.1
    have hc : f_X3_count (HT (uL T 134 X)) 0 8 = some (nI s, HT (uL T 134 X)) := v_count (T := uL T 134 X) (n := n) (s := s) (w := 8) hr.2.1.2.1 (by omega) hr.1.2.1 (by decide)
    show b_L_law_71 _ _ _ _ _ _ _ _ _ _ = _
    unfold b_L_law_71 b_L_law_223
    rw [if_pos (by rw [show (24 : Int32) = nI 24 from rfl]; exact nI_le (by omega) (by omega)), t_v3, hc, obs, if_neg (show ¬ nI s ≤ 0 from nI_ge (a := 0) (by omega) (by omega))]
  | succ m ih =>
    intro k fuel T X hk h hf
    obtain ⟨fuel, rfl⟩ : ∃ f, fuel = f + 1 := ⟨fuel - 1, by omega⟩
    have next : ∀ T' X', LI (k + 1) T' X' → f_L_law_71 (L, xs) fuel (HT (uL T' 134 X')) 0 133 134 135 136 137 (nI (k + 1)) = some 1 := fun T' X' h' => ih (k + 1) fuel T' X' (by omega) h' (by omega)
    obtain ⟨x, x1, x2⟩ := l_cell L xs hL (HT (uL T 134 X)) (show 2 * k < 100 by omega)
    obtain ⟨y, y1, y2⟩ := l_cell L xs hL (HT (uL T 134 X)) (show 2 * k + 1 < 100 by omega)
    have b1 : ∀ {β : Type} {o : Option Int32} {v : Int32} (g : Int32 → Option β), o.bind (fun u => some (u &&& (2147483647 : Int32))) = some v → o.bind (fun u => (some (u &&& (2147483647 : Int32))).bind g) = g v := by
      intro β o v g ho
      cases o with
      | none => cases ho
      | some u =>
        rw [obs] at ho ⊢
        rw [obs, Option.some.inj ho]
    show b_L_law_71 _ _ _ _ _ _ _ _ _ _ = _
    unfold b_L_law_71
    rw [if_neg (by rw [show (24 : Int32) = nI 24 from rfl]; exact nI_ge (by omega) (by omega)), show (2 : Int32) * nI k = nI (2 * k) from pk_mul 2 k, ixa1, b1 _ x2, b1 _ y2]
    by_cases h3 : (3 : Int32) ≤ nI k
    · rw [if_pos h3]
      rw [show (3 : Int32) = nI 3 from rfl, nI_leI (by omega) (by omega)] at h3
      by_cases e3 : nI k = 3
      · rw [if_pos e3]
        exact law_turn L xs (by omega) h (a := 7) (Or.inr ⟨h3, by decide⟩) x1 y1 (fun _ => by decide) next
      · rw [if_neg e3]
        have ex : nI x >>> ((13 : Int32) &&& 31) = nI (x / 8192) := pk_shrN x1 _ 13 (by decide)
        rw [ex, show f_L_at (HT (uL T 134 X)) (nI (x / 8192)) 18 = some (nI (x / 8192 / 2 % 18)) from l_at _ (c := 18) (by omega) (by decide) (by decide), obs]
        refine law_turn L xs (by omega) h (Or.inr ⟨h3, Nat.mod_lt _ (by decide)⟩) x1 y1 (fun hk3 => ?_) next
        subst hk3
        exact absurd rfl e3
    · rw [if_neg h3]
      rw [show (3 : Int32) = nI 3 from rfl, nI_leI (by omega) (by omega)] at h3
      exact law_turn L xs (by omega) h (a := 0) (Or.inl ⟨by omega, rfl⟩) x1 y1 (fun hk3 => by omega) next
theorem RLT_0 : RLT T0 X0 0 0 := by
  refine ⟨⟨by decide, rfl, rfl, rfl, rfl, fun q hq => absurd hq (by omega), fun q hq => absurd hq (by omega), ⟨⟨0, by decide, rfl⟩, rfl, fun i hi => rfl⟩, by decide, fun q hq => absurd hq (by omega), by decide, fun q hq => absurd hq (by omega)⟩, ⟨by decide, rfl, ⟨fun i hi => ?_, fun i j _ _ h => ?_⟩⟩, by decide, fun q hq => absurd hq (by omega)⟩
  · show 2 ≤ i + 2 ∧ i + 2 < 8
    omega
  · have h : i + 2 = j + 2 := h
    omega
theorem law_true (L : Nat) (xs : Nat → Int32) (hL : L ≤ 260) : f_L_law (L, xs) [] = some 1 := by
  have hc : f_X3_count (HT (uL T0 134 X0)) 0 8 = some (0, HT (uL T0 134 X0)) := v_count (T := uL T0 134 X0) (n := 0) (s := 0) (w := 8) rfl (by decide) rfl (by decide)
  rw [law_init]
  unfold lawB
  rw [told RLT_0, obs, if_neg (show ¬ (1 : Int32) = 0 by decide), t_v3, hc, obs, if_pos rfl]
  exact law_loop L xs hL 24 0 FU T0 X0 (by omega) ⟨0, 0, RLT_0, fun q _ i hi => by
    match i, hi with
    | 0, _ => rfl
    | 1, _ => rfl
    | 2, _ => rfl
    | 3, _ => rfl, fun _ => rfl, fun h => absurd h (by decide), fun h => absurd h (by decide), by decide, by decide⟩ (by rw [FU_eq]; omega)
