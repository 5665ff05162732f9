/-! the law's tick: one rail -/
variable {G : GB} {c : Nat} {X : LX}
theorem jx6 (r : Nat) : (6 : Int32) + nI r = nI (6 + r) := nI_add 6 r
def LGx (l : LG) (X : LX) : Prop := (∃ k, k ≤ 16 ∧ l.1 = nI k) ∧ X 4 3 = l.1 ∧ ∀ i, i < 64 → X 3 i = l.2 i
/-- what entries do -/
def LE (X X' : LX) (es : List (Int32 × Int32 × Int32)) : Prop := X' 4 0 = X 4 0 ∧ X' 4 1 = X 4 1 ∧ X' 4 2 = X 4 2 ∧ X' 4 4 = X 4 4 + nI es.length ∧ X' 4 5 = es.foldl falE (X 4 5) ∧ ∀ l, LGx l X → LGx (es.foldl (pushL (X 4 2)) l) X'
theorem LE_nil {X X' : LX} (h3 : X' 3 = X 3) (h4 : X' 4 = X 4) : LE X X' [] := by
  refine ⟨by rw [h4], by rw [h4], by rw [h4], ?_, by rw [h4]; rfl, fun l hl => ?_⟩
  · rw [h4]
    exact (Int32.add_zero _).symm
  · obtain ⟨a1, a2, a3⟩ := hl
    exact ⟨a1, by rw [h4]; exact a2, fun i hi => by rw [h3]; exact a3 i hi⟩
theorem LE_trans {X Y Z : LX} {e f : List (Int32 × Int32 × Int32)} (h : LE X Y e) (k : LE Y Z f) : LE X Z (e ++ f) := by
  obtain ⟨a0, a1, a2, a4, a5, a6⟩ := h
  obtain ⟨b0, b1, b2, b4, b5, b6⟩ := k
  refine ⟨b0.trans a0, b1.trans a1, b2.trans a2, ?_, ?_, fun l hl => ?_⟩
  · rw [b4, a4, List.length_append, Int32.add_assoc, nI_add]
  · rw [b5, a5, List.foldl_append]
  · rw [List.foldl_append]
    have := b6 _ (a6 l hl)
    rw [a2] at this
    exact this
def ST (X X' : LX) (r : Nat) (x : Int32 × (Nat → Int32)) : Prop := X' 0 = X 0 ∧ (∀ w n, wnX X w n → wnX X' w n) ∧ rowX X' = setRow (rowX X) r (if x.1 = rowX X r 9 then x.2 else becR x.1 x.2) ∧ LE X X' (if x.1 = rowX X r 9 then [] else [(nI r, x.1, x.2 15)])
theorem ST_id (X : LX) (r : Nat) {s : Int32} (h : s = rowX X r 9) : ST X X r (s, rowX X r) := by
  refine ⟨rfl, fun _ _ h => h, ?_, ?_⟩
  · rw [if_pos h, sr_self]
  · rw [if_pos h]
    exact LE_nil rfl rfl
theorem ST_13 (X : LX) (r : Nat) {s v : Int32} (h : s = rowX X r 9) : ST X (ux X 1 (9 * r + 6) v) r (s, upd (rowX X r) 13 v) := by
  refine ⟨rfl, fun _ _ h => wn_ux h (Or.inr (by omega)) _, ?_, ?_⟩
  · rw [if_pos h, qx_13]
  · rw [if_pos h]
    exact LE_nil rfl rfl
theorem ST_enter {X Y X' : LX} {r : Nat} {s : Int32} {row : Nat → Int32} (hr : rowX Y = setRow (rowX X) r row) (h0 : Y 0 = X 0) (hw : ∀ w n, wnX X w n → wnX Y w n) (h3 : Y 3 = X 3) (h4 : Y 4 = X 4) (hne : ¬ s = rowX X r 9) (he : EN Y X' r s) : ST X X' r (s, row) := by
  obtain ⟨e0, er, ew, el, d0, d1, d2, d3, d4, d5⟩ := he
  have hrr : rowX Y r = row := by rw [hr, sr_at]
  refine ⟨e0.trans h0, fun w n h => ew w n (hw w n h), ?_, ?_⟩
  · rw [if_neg hne, er, hr, sr_sr, sr_at]
  · rw [if_neg hne]
    refine ⟨by rw [d0, h4], by rw [d1, h4], by rw [d2, h4], by rw [d4, h4]; rfl, by rw [d5, h4, hrr]; rfl, fun l hl => ?_⟩
    obtain ⟨⟨k, hk, a1⟩, a2, a3⟩ := hl
    show LGx (pushL (X 4 2) l (nI r, s, row 15)) X'
    have e16 : mmin (l.1 + 1) 16 = (if 16 ≤ l.1 then l.1 else l.1 + 1) := by
      rw [a1, nI_1]
      unfold mmin
      rw [show (16 : Int32) = nI 16 from rfl]
      by_cases h : k = 16
      · subst h; decide
      · rw [if_neg (by rw [nI_ltI (by omega) (by omega)]; omega), if_neg (by rw [nI_leI (by omega) (by omega)]; omega)]
    refine ⟨?_, ?_, fun i hi => ?_⟩
    · show ∃ q, q ≤ 16 ∧ mmin (l.1 + 1) 16 = nI q
      rw [e16, a1]
      by_cases h : k = 16
      · subst h; exact ⟨16, by omega, by decide⟩
      · refine ⟨k + 1, by omega, ?_⟩
        rw [show (16 : Int32) = nI 16 from rfl, if_neg (by rw [nI_leI (by omega) (by omega)]; omega), nI_1]
    · show X' 4 3 = mmin (l.1 + 1) 16
      rw [e16, d3, h4, a2]
    · rw [el i hi, h4, hrr, h3]
      show _ = logIn l.2 (X 4 2) (nI r) s (row 15) i
      unfold logIn
      by_cases i0 : i = 0
      · rw [if_pos i0, if_pos i0]
      rw [if_neg i0, if_neg i0]
      by_cases i1 : i = 1
      · rw [if_pos i1, if_pos i1]
      rw [if_neg i1, if_neg i1]
      by_cases i2 : i = 2
      · rw [if_pos i2, if_pos i2]
      rw [if_neg i2, if_neg i2]
      by_cases i3 : i = 3
      · rw [if_pos i3, if_pos i3]
      rw [if_neg i3, if_neg i3, if_pos hi, if_pos hi]
      exact a3 _ (by omega)
/-! the roads behind the rule -/
variable {rec : MH → Nat → Nat → Nat → Nat → Nat → Int32 → Int32 → Option MH} {old : Int32}
theorem k_stay {r : Nat} {h : MH} {now : Int32} (h2 : ¬ now = 2) : b_L_tick_344 rec h 133 c (c + 1) (c + 2) (c + 3) old (nI r) (nI (9 * r)) now (-1) = rec h 133 c (c + 1) (c + 2) (c + 3) old (nI (r + 1)) := by
  unfold b_L_tick_344 b_L_tick_363 b_L_tick_364 b_L_tick_393 b_L_tick_531
  rw [if_pos m1_lt, if_neg h2, if_neg m1_le, nI_1]
theorem k_rise (hc : CK G c) {r : Nat} (hr : r < 6) : b_L_tick_344 rec (hl G c X) 133 c (c + 1) (c + 2) (c + 3) old (nI r) (nI (9 * r)) 2 (-1) = rec (hl G c (ux X 1 (9 * r + 6) (X 1 (9 * r + 6) + 1))) 133 c (c + 1) (c + 2) (c + 3) old (nI (r + 1)) := by
  unfold b_L_tick_344 b_L_tick_363 b_L_tick_364 b_L_tick_382 b_L_tick_393 b_L_tick_531
  rw [if_pos m1_lt, if_pos rfl, if_pos m1_lt]
  simp (disch := omega) only [obs, l_a0 hc, l_a1 hc, l_a2 hc, l_a3 hc, l_a4 hc, l_s0 hc, l_s1 hc, l_s2 hc, l_s3 hc, l_s4 hc, jx9, jx7, jx3, ix4l, ixa0, ixa1, ixa2, ixa3, ixa4, ixa5, ixa6, ixa7, ixa8, ixa9, ixa10, ixa11, ixa12, ixa13, ixa14, ixa15, ixa16, ixa17, ixa18, ixa19, ixa20, l6_0, l6_1, l6_2, l6_3, l6_4, l6_5, l64_0, l64_1, l64_2, l64_3, bd_nI]
  rw [if_neg m1_le]
theorem k_0 (hc : CK G c) {r : Nat} {h : MH} {now : Int32} (h0 : ¬ now = 0) : b_L_tick_344 rec h 133 c (c + 1) (c + 2) (c + 3) old (nI r) (nI (9 * r)) now 0 = (f_L_enter h (nI r) 0 c (c + 1) (c + 2) (c + 3)).bind fun h12 => rec h12 133 c (c + 1) (c + 2) (c + 3) old (nI (r + 1)) := by
  unfold b_L_tick_344 b_L_tick_363 b_L_tick_364
  rw [if_neg (by decide), show firem (0 : Int32) 20 = some 0 from by decide, obs, if_neg (show ¬ (0 : Int32) = 6 by decide), if_neg (show ¬ (0 : Int32) < 0 by decide), if_pos rfl]
  have e : b_L_tick_393 rec h 133 c (c + 1) (c + 2) (c + 3) old (nI r) (nI (9 * r)) now 0 0 = (f_L_enter h (nI r) 0 c (c + 1) (c + 2) (c + 3)).bind fun h12 => rec h12 133 c (c + 1) (c + 2) (c + 3) old (nI (r + 1)) := by
    unfold b_L_tick_393 b_L_tick_421 b_L_tick_434 b_L_tick_455 b_L_tick_483 b_L_tick_523 b_L_tick_531
    rw [if_pos (by decide), if_neg (by decide), if_neg (by decide), if_neg h0, if_pos (by decide), if_pos rfl, if_pos rfl, show firem (0 : Int32) 20 = some 0 from by decide, obs, nI_1]
  rw [e]
  split <;> rfl
def un7 (now : Int32) (X : LX) (r : Nat) : LX := if now = 0 then ux X 1 (9 * r + 7) 0 else X
theorem k_421 (hc : CK G c) {r : Nat} (hr : r < 6) {now x9 : Int32} (hx : x9 < 20) (hq : firem x9 20 = some x9) : b_L_tick_421 rec (hl G c X) 133 c (c + 1) (c + 2) (c + 3) old (nI r) (nI (9 * r)) now x9 0 = (f_L_enter (hl G c (un7 now X r)) (nI r) x9 c (c + 1) (c + 2) (c + 3)).bind fun h12 => rec h12 133 c (c + 1) (c + 2) (c + 3) old (nI (r + 1)) := by
  have e : ∀ Y : LX, b_L_tick_434 rec (hl G c Y) 133 c (c + 1) (c + 2) (c + 3) old (nI r) (nI (9 * r)) x9 0 = (f_L_enter (hl G c Y) (nI r) x9 c (c + 1) (c + 2) (c + 3)).bind fun h12 => rec h12 133 c (c + 1) (c + 2) (c + 3) old (nI (r + 1)) := by
    intro Y
    unfold b_L_tick_434 b_L_tick_455 b_L_tick_483 b_L_tick_523 b_L_tick_531
    rw [if_pos hx, if_pos rfl, if_pos rfl, hq, obs, nI_1]
  unfold b_L_tick_421 un7
  by_cases h : now = 0
  · rw [if_pos h, if_pos h, ixa7, l_s1 hc, bd_nI (by omega) (by decide), obs]
    exact e _
  · rw [if_neg h, if_neg h]
    exact e _
theorem k_1 (hc : CK G c) {r : Nat} (hr : r < 6) {now : Int32} (h2 : ¬ now = 2) : b_L_tick_344 rec (hl G c X) 133 c (c + 1) (c + 2) (c + 3) old (nI r) (nI (9 * r)) now 1 = (f_L_enter (hl G c (un7 now (ux X 1 (9 * r + 6) 0) r)) (nI r) 1 c (c + 1) (c + 2) (c + 3)).bind fun h12 => rec h12 133 c (c + 1) (c + 2) (c + 3) old (nI (r + 1)) := by
  unfold b_L_tick_344 b_L_tick_363 b_L_tick_364
  rw [if_neg (by decide), show firem (1 : Int32) 20 = some 1 from by decide, obs, if_neg (by decide), if_neg h2]
  unfold b_L_tick_393 b_L_tick_413
  rw [if_pos (by decide), if_pos rfl, ixa6, l_s1 hc, bd_nI (by omega) (by decide), obs]
  exact k_421 hc hr (by decide) (by decide)
theorem k_2 (hc : CK G c) {r : Nat} (hr : r < 6) {now : Int32} (h2 : ¬ now = 2) (h0 : ¬ now = 0) : b_L_tick_344 rec (hl G c X) 133 c (c + 1) (c + 2) (c + 3) old (nI r) (nI (9 * r)) now 2 = (f_L_enter (hl G c (ux X 1 (9 * r + 6) 0)) (nI r) 2 c (c + 1) (c + 2) (c + 3)).bind fun h12 => rec h12 133 c (c + 1) (c + 2) (c + 3) old (nI (r + 1)) := by
  unfold b_L_tick_344 b_L_tick_363 b_L_tick_364
  rw [if_neg (by decide), show firem (2 : Int32) 20 = some 2 from by decide, obs, if_neg (by decide), if_neg h2]
  unfold b_L_tick_393 b_L_tick_413
  rw [if_pos (by decide), if_neg (by decide), if_pos rfl, ixa6, l_s1 hc, bd_nI (by omega) (by decide), obs]
  have e := k_421 (rec := rec) (old := old) (X := ux X 1 (9 * r + 6) 0) hc hr (now := now) (x9 := 2) (by decide) (by decide)
  unfold un7 at e
  rw [if_neg h0] at e
  exact e
theorem k_b (hc : CK G c) {r m : Nat} (hr : r < 6) {now : Int32} (h0 : ¬ now = 0) (hm : 20 ≤ m) (hm2 : m < 1000) (h6 : m % 20 ≠ 6) : b_L_tick_344 rec (hl G c X) 133 c (c + 1) (c + 2) (c + 3) old (nI r) (nI (9 * r)) now (nI m) = (f_L_enter (hl G c (ux X 1 (9 * r + 8) (nI (m / 20) - 2))) (nI r) (nI (m % 20)) c (c + 1) (c + 2) (c + 3)).bind fun h12 => rec h12 133 c (c + 1) (c + 2) (c + 3) old (nI (r + 1)) := by
  have ed : fidiv (nI m) 20 = some (nI (m / 20)) := i_div (c := 20) (by omega) (by decide) (by decide)
  have er : firem (nI m) 20 = some (nI (m % 20)) := i_mod (c := 20) (by omega) (by decide) (by decide)
  have e1 : ¬ nI m = 1 := by rw [show (1 : Int32) = nI 1 from rfl, nI_eq (by omega) (by omega)]; omega
  have e2 : ¬ nI m = 2 := by rw [show (2 : Int32) = nI 2 from rfl, nI_eq (by omega) (by omega)]; omega
  have e20 : ¬ nI m < 20 := by rw [show (20 : Int32) = nI 20 from rfl, nI_ltI (by omega) (by omega)]; omega
  have e6 : ¬ nI (m % 20) = 6 := by rw [show (6 : Int32) = nI 6 from rfl, nI_eq (by omega) (by omega)]; exact h6
  unfold b_L_tick_344 b_L_tick_363 b_L_tick_364
  rw [if_neg (nI_pos (by omega)), er, obs, if_neg e6, if_neg (nI_pos (by omega)), if_pos rfl]
  have e : b_L_tick_393 rec (hl G c X) 133 c (c + 1) (c + 2) (c + 3) old (nI r) (nI (9 * r)) now (nI m) 0 = (f_L_enter (hl G c (ux X 1 (9 * r + 8) (nI (m / 20) - 2))) (nI r) (nI (m % 20)) c (c + 1) (c + 2) (c + 3)).bind fun h12 => rec h12 133 c (c + 1) (c + 2) (c + 3) old (nI (r + 1)) := by
    unfold b_L_tick_393 b_L_tick_421 b_L_tick_434 b_L_tick_455 b_L_tick_483 b_L_tick_523 b_L_tick_531
    rw [if_pos (nI_pos' (by omega)), if_neg e1, if_neg e2, if_neg h0, if_neg e20, ed, obs]
    rw [ixa8, l_s1 hc, bd_nI (by omega) (by decide), obs, if_pos rfl, if_pos rfl, er, obs, nI_1]
  rw [e]
  split <;> rfl
def up6 (now : Int32) (X : LX) (r : Nat) : LX := if now = 2 then ux X 1 (9 * r + 6) (X 1 (9 * r + 6) + 1) else X
def faX (X : LX) (r : Nat) (x : Int32) : LX := ux (ux (ux X 1 (9 * r + 8) x) 1 (9 * r + 7) (X 1 (9 * r + 7) + 1)) 2 (4 * r + 2) (X 2 (4 * r + 2) + 1)
theorem k_f (hc : CK G c) {r m : Nat} (hr : r < 6) {now : Int32} (h0 : ¬ now = 0) (hm : 20 ≤ m) (hm2 : m < 1000) (h6 : m % 20 = 6) : b_L_tick_344 rec (hl G c X) 133 c (c + 1) (c + 2) (c + 3) old (nI r) (nI (9 * r)) now (nI m) = (f_L_enter (hl G c (faX (up6 now X r) r (nI (m / 20) - 2))) (nI r) (if X 1 (9 * r + 7) + 1 < X 0 (7 * r + 6) then 4 else 5) c (c + 1) (c + 2) (c + 3)).bind fun h12 => rec h12 133 c (c + 1) (c + 2) (c + 3) old (nI (r + 1)) := by
  have ed : fidiv (nI m) 20 = some (nI (m / 20)) := i_div (c := 20) (by omega) (by decide) (by decide)
  have er : firem (nI m) 20 = some (nI (m % 20)) := i_mod (c := 20) (by omega) (by decide) (by decide)
  have e1 : ¬ nI m = 1 := by rw [show (1 : Int32) = nI 1 from rfl, nI_eq (by omega) (by omega)]; omega
  have e2 : ¬ nI m = 2 := by rw [show (2 : Int32) = nI 2 from rfl, nI_eq (by omega) (by omega)]; omega
  have e20 : ¬ nI m < 20 := by rw [show (20 : Int32) = nI 20 from rfl, nI_ltI (by omega) (by omega)]; omega
  have e6 : nI (m % 20) = 6 := by rw [h6]; rfl
  have e : ∀ Y : LX, Y 1 (9 * r + 7) = X 1 (9 * r + 7) → Y 0 = X 0 → b_L_tick_393 rec (hl G c Y) 133 c (c + 1) (c + 2) (c + 3) old (nI r) (nI (9 * r)) now (nI m) 1 = (f_L_enter (hl G c (faX Y r (nI (m / 20) - 2))) (nI r) (if X 1 (9 * r + 7) + 1 < X 0 (7 * r + 6) then 4 else 5) c (c + 1) (c + 2) (c + 3)).bind fun h12 => rec h12 133 c (c + 1) (c + 2) (c + 3) old (nI (r + 1)) := by
    intro Y hY7 hY0
    unfold b_L_tick_393 b_L_tick_421 b_L_tick_434 b_L_tick_455 b_L_tick_483 b_L_tick_523 b_L_tick_531 faX
    rw [if_pos (nI_pos' (by omega)), if_neg e1, if_neg e2, if_neg h0, if_neg e20, ed, obs]
    simp (disch := omega) only [obs, l_a0 hc, l_a1 hc, l_a2 hc, l_a3 hc, l_a4 hc, l_s0 hc, l_s1 hc, l_s2 hc, l_s3 hc, l_s4 hc, jx9, jx7, jx3, ix4l, ixa0, ixa1, ixa2, ixa3, ixa4, ixa5, ixa6, ixa7, ixa8, ixa9, ixa10, ixa11, ixa12, ixa13, ixa14, ixa15, ixa16, ixa17, ixa18, ixa19, ixa20, l6_0, l6_1, l6_2, l6_3, l6_4, l6_5, l64_0, l64_1, l64_2, l64_3, ux_00, ux_01, ux_02, ux_03, ux_04, ux_10, ux_11, ux_12, ux_13, ux_14, ux_20, ux_21, ux_22, ux_23, ux_24, ux_30, ux_31, ux_32, ux_33, ux_34, ux_40, ux_41, ux_42, ux_43, ux_44, upd_s, upd_n, bd_nI]
    rw [if_neg n10, if_neg n10]
    rw [hY7, hY0]
    by_cases h : X 1 (9 * r + 7) + 1 < X 0 (7 * r + 6)
    · rw [if_pos h, if_pos h]
    · rw [if_neg h, if_neg h]
  unfold b_L_tick_344 b_L_tick_363 b_L_tick_364 b_L_tick_382
  rw [if_neg (nI_pos (by omega)), er, obs, if_pos e6, if_neg (nI_pos (by omega)), if_neg n10]
  unfold up6
  by_cases h2 : now = 2
  · rw [if_pos h2, if_pos h2]
    simp (disch := omega) only [obs, l_a0 hc, l_a1 hc, l_a2 hc, l_a3 hc, l_a4 hc, l_s0 hc, l_s1 hc, l_s2 hc, l_s3 hc, l_s4 hc, jx9, jx7, jx3, ix4l, ixa0, ixa1, ixa2, ixa3, ixa4, ixa5, ixa6, ixa7, ixa8, ixa9, ixa10, ixa11, ixa12, ixa13, ixa14, ixa15, ixa16, ixa17, ixa18, ixa19, ixa20, l6_0, l6_1, l6_2, l6_3, l6_4, l6_5, l64_0, l64_1, l64_2, l64_3, bd_nI]
    exact e _ (by rw [ux_11, upd_n (by omega)]) rfl
  · rw [if_neg h2, if_neg h2]
    exact e X rfl rfl
/-- the loop that asks whether a waiting rail can start -/
theorem k_can (hc : CK G c) {n r : Nat} (hn6 : n ≤ 6) {s : Nat → Nat} (hs : ∀ k, s k < 8) (hr : r < n) {now to : Int32} : ∀ (m k fuel : Nat) (b : Bool), k + m = r → m < fuel → f_L_tick_258 rec fuel (hl G c X) 133 c (c + 1) (c + 2) (c + 3) (nI (okN s n)) (nI r) (nI (9 * r)) now to (if b = true then 1 else 0) (nI k) = b_L_tick_344 rec (hl G c (ux X 1 (9 * r + 6) (if b = true ∧ badF (fun q => nI (s q)) (rowX X) (rowX X r 7) k m = -1 then X 1 (9 * r + 6) + 1 else 0))) 133 c (c + 1) (c + 2) (c + 3) (nI (okN s n)) (nI r) (nI (9 * r)) now to := by
  intro m
  induction m with
  | zero =>
    intro k fuel b hk hf
    obtain ⟨fuel, rfl⟩ : ∃ f, fuel = f + 1 := ⟨fuel - 1, by omega⟩
    show b_L_tick_258 _ _ _ _ _ _ _ _ _ _ _ _ _ _ _ = _
    unfold b_L_tick_258 b_L_tick_343
    rw [if_pos (nI_le (by omega) (by omega))]
    simp only [bit1]
    cases b with
    | true =>
      simp (disch := omega) only [Bool.true_eq_false, if_false, obs, l_a0 hc, l_a1 hc, l_a2 hc, l_a3 hc, l_a4 hc, l_s0 hc, l_s1 hc, l_s2 hc, l_s3 hc, l_s4 hc, jx9, jx7, jx3, ix4l, ixa0, ixa1, ixa2, ixa3, ixa4, ixa5, ixa6, ixa7, ixa8, ixa9, ixa10, ixa11, ixa12, ixa13, ixa14, ixa15, ixa16, ixa17, ixa18, ixa19, ixa20, l6_0, l6_1, l6_2, l6_3, l6_4, l6_5, l64_0, l64_1, l64_2, l64_3, bd_nI]
      rw [if_pos ⟨trivial, rfl⟩]
    | false =>
      simp (disch := omega) only [if_true, obs, l_a0 hc, l_a1 hc, l_a2 hc, l_a3 hc, l_a4 hc, l_s0 hc, l_s1 hc, l_s2 hc, l_s3 hc, l_s4 hc, jx9, jx7, jx3, ix4l, ixa0, ixa1, ixa2, ixa3, ixa4, ixa5, ixa6, ixa7, ixa8, ixa9, ixa10, ixa11, ixa12, ixa13, ixa14, ixa15, ixa16, ixa17, ixa18, ixa19, ixa20, l6_0, l6_1, l6_2, l6_3, l6_4, l6_5, l64_0, l64_1, l64_2, l64_3, bd_nI]
      rw [if_neg (fun h => absurd h.1 (by decide))]
  | succ m ih =>
    intro k fuel b hk hf
    obtain ⟨fuel, rfl⟩ : ∃ f, fuel = f + 1 := ⟨fuel - 1, by omega⟩
    have hkn : k < n := by omega
    have i1 : f_L_tick_258 rec fuel (hl G c X) 133 c (c + 1) (c + 2) (c + 3) (nI (okN s n)) (nI r) (nI (9 * r)) now to 1 (nI (k + 1)) = _ := ih (k + 1) fuel true (by omega) (by omega)
    have i0 : f_L_tick_258 rec fuel (hl G c X) 133 c (c + 1) (c + 2) (c + 3) (nI (okN s n)) (nI r) (nI (9 * r)) now to 0 (nI (k + 1)) = _ := ih (k + 1) fuel false (by omega) (by omega)
    show b_L_tick_258 _ _ _ _ _ _ _ _ _ _ _ _ _ _ _ = _
    unfold b_L_tick_258 b_L_tick_310 b_L_tick_306 b_L_tick_311
    rw [if_neg (nI_ge (by omega) (by omega)), nI_1, i1, i0]
    simp only [bit1]
    cases b with
    | false =>
      rw [if_pos rfl, if_neg (fun h => absurd h.1 (by decide)), if_neg (fun h => absurd h.1 (by decide))]
    | true =>
      rw [if_neg (show ¬ true = false from by decide), l_a1 hc, bd_nI (by omega) (by decide), obs, jx3, old_get hs hn6 hkn, l_flag hc (by omega)]
      have e7 : X 1 (9 * r) = rowX X r 7 := rfl
      rw [e7, if_neg (c := false = true ∧ _) (fun h => absurd h.1 (by decide))]
      by_cases ht : tb (rowX X r 7) k = true
      · rw [if_neg (fun h => by rw [(tb_hasnt _ (by omega)).1 h] at ht; exact absurd ht (by decide))]
        by_cases h3 : nI (s k) = 3
        · rw [if_pos h3, obs]
          simp only [bit1]
          cases hf : flgR (rowX X k) with
          | true =>
            rw [if_neg (show ¬ true = false from by decide)]
            have e : badF (fun q => nI (s q)) (rowX X) (rowX X r 7) k (m + 1) = badF (fun q => nI (s q)) (rowX X) (rowX X r 7) (k + 1) m := if_neg (by
              rintro ⟨-, h | h⟩
              · exact h h3
              · rw [hf] at h; exact absurd h (by decide))
            rw [e]
          | false =>
            have e : badF (fun q => nI (s q)) (rowX X) (rowX X r 7) k (m + 1) = nI k := if_pos ⟨ht, Or.inr hf⟩
            rw [if_pos rfl, e, if_neg (fun h => nI_m1 (by omega) h.2)]
        · have e : badF (fun q => nI (s q)) (rowX X) (rowX X r 7) k (m + 1) = nI k := if_pos ⟨ht, Or.inl h3⟩
          rw [if_neg h3, e, if_neg (c := true = true ∧ _) (fun h => nI_m1 (by omega) h.2)]
      · have e : badF (fun q => nI (s q)) (rowX X) (rowX X r 7) k (m + 1) = badF (fun q => nI (s q)) (rowX X) (rowX X r 7) (k + 1) m := if_neg (fun h => ht h.1)
        rw [if_pos ((tb_hasnt _ (by omega)).2 (by simpa using ht)), e]
        simp
