/-! the model looks at a rail -/
def lkR (s9 : Int32) (x : Int32 × (Nat → Int32)) : Nat → Int32 := if x.1 = s9 then x.2 else becR x.1 x.2
def lkE (s9 : Int32) (r : Nat) (x : Int32 × (Nat → Int32)) : List (Int32 × Int32 × Int32) := if x.1 = s9 then [] else [(nI r, x.1, x.2 15)]
def st6 (x : Int32) : Prop := x = 0 ∨ x = 1 ∨ x = 2 ∨ x = 3 ∨ x = 4 ∨ x = 5
def ZL (G : Nat → MC) (b : Nat) (M : MV) (r : Nat) (o : Option MH) (row : Nat → Int32) (es : List (Int32 × Int32 × Int32)) : Prop := ∃ M', o = some (hm G b M') ∧ ZT M M' (setRow (rowZ (M.2 1)) r row) es
variable {G : Nat → MC} {b : Nat}
theorem ZL_id (M : MV) (r : Nat) : ZL G b M r (some (hm G b M)) (rowZ (M.2 1) r) [] := ⟨M, rfl, by rw [sr_self]; exact ZT_refl M⟩
theorem ZL_lay {M : MV} {r k : Nat} (hr : r < 8) (hk : k < 20) (h8 : k ≠ 8) (x : Int32) {o : Option MH} {row : Nat → Int32} {es : List (Int32 × Int32 × Int32)} (h : ZL G b (wZ M (upd (M.2 1) (68 + 20 * r + k) x)) r o row es) : ZL G b M r o row es := by
  obtain ⟨M', h1, h2⟩ := h
  have t := ZT_trans (ZT_lay M hr hk h8 x) h2
  rw [wZ_z, rz_upd _ r hk h8, sr_sr] at t
  exact ⟨M', h1, t⟩
theorem ZL_row {M : MV} {r k : Nat} (hk : k < 20) (h8 : k ≠ 8) (x : Int32) : rowZ (upd (M.2 1) (68 + 20 * r + k) x) r = upd (rowZ (M.2 1) r) k x := by
  rw [rz_upd _ r hk h8, sr_at]
theorem ZL_bind {M : MV} {r : Nat} {o : Option MH} {row : Nat → Int32} {es : List (Int32 × Int32 × Int32)} {f : MH → Option MH} (hf : ∀ h, f h = some h) (h : ZL G b M r o row es) : ZL G b M r (o.bind f) row es := by
  obtain ⟨M', h1, h2⟩ := h
  exact ⟨M', by rw [h1, Option.bind_some, hf], h2⟩
theorem LRel_lay {M : MV} {r k : Nat} {x : Int32} {l : LG} (h : LRel l (M.2 1)) : LRel l ((wZ M (upd (M.2 1) (68 + 20 * r + k) x)).2 1) := LRel_same (fun i hi => by rw [wZ_z]; exact upd_n (by omega)) h
theorem z_becomeL (hb : b ≤ 134) {M : MV} {r : Nat} (hr : r < 8) {l : LG} (hl : LRel l (M.2 1)) {s : Int32} : ZL G b M r (f_X4_become (hm G b M) b (nI r) s) (becR s (rowZ (M.2 1) r)) [(nI r, s, rowZ (M.2 1) r 15)] := z_become hb hr hl s
theorem z_becomeFor (hb : b ≤ 134) {M : MV} {r : Nat} (hr : r < 8) {l : LG} (hl : LRel l (M.2 1)) {s x : Int32} : ZL G b M r (f_X4_becomeFor (hm G b M) b (nI r) s x) (becR s (upd (rowZ (M.2 1) r) 15 x)) [(nI r, s, x)] := by
  simp only [f_X4_becomeFor, Option.bind_some, b228_0, b228_1, b228_2, b228_3, m_v hb, m_R1 hb, m_R8 hb, m_a1 hb, m_a8 hb, m_of0 hb hr, m_of1 hb hr, m_of2 hb hr, m_of3 hb hr, m_of4 hb hr, m_of5 hb hr, m_of6 hb hr, m_of7 hb hr, m_of8 hb hr, m_of9 hb hr, m_of10 hb hr, m_of11 hb hr, m_of12 hb hr, m_of13 hb hr, m_of14 hb hr, m_of15 hb hr, m_of16 hb hr, m_of17 hb hr, m_of18 hb hr, m_of19 hb hr, m_lay0 hb hr, m_lay1 hb hr, m_lay2 hb hr, m_lay3 hb hr, m_lay4 hb hr, m_lay5 hb hr, m_lay6 hb hr, m_lay7 hb hr, m_lay8 hb hr, m_lay9 hb hr, m_lay10 hb hr, m_lay11 hb hr, m_lay12 hb hr, m_lay13 hb hr, m_lay14 hb hr, m_lay15 hb hr, m_lay16 hb hr, m_lay17 hb hr, m_lay18 hb hr, m_lay19 hb hr, m_add13 hb hr, m_add14 hb hr, m_add16 hb hr, m_add17 hb hr, m_add18 hb hr, m_add19 hb hr, wZ_1, wZ_z, wZ_8, wZ_wZ]
  refine ZL_bind (fun _ => rfl) (ZL_lay hr (k := 15) (by decide) (by decide) x ?_)
  have t := z_becomeL (G := G) hb (M := wZ M (upd (M.2 1) (68 + 20 * r + 15) x)) hr (LRel_lay hl) (s := s)
  rw [wZ_z, ZL_row (by decide) (by decide), upd_s] at t
  exact t
theorem upd_comm (f : Nat → Int32) {i j : Nat} (h : i ≠ j) (x y : Int32) : upd (upd f i x) j y = upd (upd f j y) i x := by
  funext k
  by_cases h1 : k = i
  · subst h1
    rw [upd_n h, upd_s, upd_s]
  · by_cases h2 : k = j
    · subst h2
      rw [upd_s, upd_n h1, upd_s]
    · rw [upd_n h2, upd_n h1, upd_n h1, upd_n h2]
theorem upd_upd (f : Nat → Int32) (i : Nat) (x y : Int32) : upd (upd f i x) i y = upd f i y := by
  funext k
  by_cases h1 : k = i
  · subst h1
    rw [upd_s, upd_s]
  · rw [upd_n h1, upd_n h1, upd_n h1]
theorem upd_self (f : Nat → Int32) (i : Nat) : upd f i (f i) = f := by
  funext k
  by_cases h1 : k = i
  · subst h1
    rw [upd_s]
  · rw [upd_n h1]
theorem z_fail (hb : b ≤ 134) {M : MV} {r : Nat} (hr : r < 8) {l : LG} (hl : LRel l (M.2 1)) : ZL G b M r (f_X4_fail (hm G b M) b (nI r)) (becR (failR r (rowZ (M.2 1) r)).1 (failR r (rowZ (M.2 1) r)).2) [(nI r, (failR r (rowZ (M.2 1) r)).1, nI r)] := by
  simp only [f_X4_fail, b_X4_fail_38, Option.bind_some, b228_0, b228_1, b228_2, b228_3, m_v hb, m_R1 hb, m_R8 hb, m_a1 hb, m_a8 hb, m_of0 hb hr, m_of1 hb hr, m_of2 hb hr, m_of3 hb hr, m_of4 hb hr, m_of5 hb hr, m_of6 hb hr, m_of7 hb hr, m_of8 hb hr, m_of9 hb hr, m_of10 hb hr, m_of11 hb hr, m_of12 hb hr, m_of13 hb hr, m_of14 hb hr, m_of15 hb hr, m_of16 hb hr, m_of17 hb hr, m_of18 hb hr, m_of19 hb hr, m_lay0 hb hr, m_lay1 hb hr, m_lay2 hb hr, m_lay3 hb hr, m_lay4 hb hr, m_lay5 hb hr, m_lay6 hb hr, m_lay7 hb hr, m_lay8 hb hr, m_lay9 hb hr, m_lay10 hb hr, m_lay11 hb hr, m_lay12 hb hr, m_lay13 hb hr, m_lay14 hb hr, m_lay15 hb hr, m_lay16 hb hr, m_lay17 hb hr, m_lay18 hb hr, m_lay19 hb hr, m_add13 hb hr, m_add14 hb hr, m_add16 hb hr, m_add17 hb hr, m_add18 hb hr, m_add19 hb hr, wZ_1, wZ_z, wZ_8, wZ_wZ]
  have e1 : rowZ (upd (M.2 1) (68 + 20 * r + 14) (rowZ (M.2 1) r 14 + 1)) r = upd (rowZ (M.2 1) r) 14 (rowZ (M.2 1) r 14 + 1) := ZL_row (by decide) (by decide) _
  have e2 := ZL_row (M := wZ M (upd (M.2 1) (68 + 20 * r + 14) (rowZ (M.2 1) r 14 + 1))) (r := r) (k := 18) (by decide) (by decide) (rowZ (M.2 1) r 18 + 1)
  rw [wZ_z, e1] at e2
  simp only [e1, e2, upd_s, upd_n (show 18 ≠ 14 by decide), upd_n (show 14 ≠ 18 by decide), upd_n (show 6 ≠ 18 by decide), upd_n (show 6 ≠ 14 by decide)]
  refine ZL_lay hr (k := 14) (by decide) (by decide) (rowZ (M.2 1) r 14 + 1) (ZL_lay hr (k := 18) (by decide) (by decide) (rowZ (M.2 1) r 18 + 1) ?_)
  have t := fun s => z_becomeFor (G := G) hb (M := wZ (wZ M (upd (M.2 1) (68 + 20 * r + 14) (rowZ (M.2 1) r 14 + 1))) (upd ((wZ M (upd (M.2 1) (68 + 20 * r + 14) (rowZ (M.2 1) r 14 + 1))).2 1) (68 + 20 * r + 18) (rowZ (M.2 1) r 18 + 1))) hr (LRel_lay (LRel_lay hl)) (s := s) (x := nI r)
  simp only [wZ_z, e2, wZ_wZ] at t ⊢
  have e3 : ∀ row : Nat → Int32, upd (upd (upd row 14 (row 14 + 1)) 18 (row 18 + 1)) 15 (nI r) = upd (upd (upd row 15 (nI r)) 14 (row 14 + 1)) 18 (row 18 + 1) := by
    intro row
    rw [upd_comm _ (show 18 ≠ 15 by decide), upd_comm _ (show 14 ≠ 15 by decide)]
  rw [e3] at t
  unfold failR
  by_cases h : rowZ (M.2 1) r 14 + 1 < rowZ (M.2 1) r 6
  · simp only [h, if_true]
    exact ZL_bind (fun _ => rfl) (t 4)
  · simp only [h, if_false]
    exact ZL_bind (fun _ => rfl) (t 5)
theorem z_waiting (hb : b ≤ 134) {M : MV} {r : Nat} (hr : r < 8) {l : LG} (hl : LRel l (M.2 1)) {wn : Bool} (hw : M.2 1 (68 + 20 * r + 8) = if wn = true then 1 else 0) {x : Int32 × (Nat → Int32)} (hx : x = (if wn = true then (if ¬ M.2 1 1 < rowZ (M.2 1) r 10 then (if badR (M.2 8) (rowZ (M.2 1)) r = -1 then (if rowZ (M.2 1) r 4 < rowZ (M.2 1) r 13 + 1 then (2, upd (upd (rowZ (M.2 1) r) 13 (rowZ (M.2 1) r 13 + 1)) 13 0) else (1, upd (rowZ (M.2 1) r) 13 (rowZ (M.2 1) r 13 + 1))) else (1, upd (rowZ (M.2 1) r) 13 0)) else (1, upd (rowZ (M.2 1) r) 13 0)) else (0, rowZ (M.2 1) r))) :
    ZL G b M r (f_X4_lookWaiting (hm G b M) b (nI r)) (lkR 1 x) (lkE 1 r x) := by
  subst hx
  have lay0 : ZL G b M r (b_X4_lookWaiting_76 (hm G b M) b (nI r)) (upd (rowZ (M.2 1) r) 13 0) [] := by
    simp only [b_X4_lookWaiting_76, b_X4_lookWaiting_84, Option.bind_some, b228_0, b228_1, b228_2, b228_3, m_v hb, m_R1 hb, m_R8 hb, m_a1 hb, m_a8 hb, m_of0 hb hr, m_of1 hb hr, m_of2 hb hr, m_of3 hb hr, m_of4 hb hr, m_of5 hb hr, m_of6 hb hr, m_of7 hb hr, m_of8 hb hr, m_of9 hb hr, m_of10 hb hr, m_of11 hb hr, m_of12 hb hr, m_of13 hb hr, m_of14 hb hr, m_of15 hb hr, m_of16 hb hr, m_of17 hb hr, m_of18 hb hr, m_of19 hb hr, m_lay0 hb hr, m_lay1 hb hr, m_lay2 hb hr, m_lay3 hb hr, m_lay4 hb hr, m_lay5 hb hr, m_lay6 hb hr, m_lay7 hb hr, m_lay8 hb hr, m_lay9 hb hr, m_lay10 hb hr, m_lay11 hb hr, m_lay12 hb hr, m_lay13 hb hr, m_lay14 hb hr, m_lay15 hb hr, m_lay16 hb hr, m_lay17 hb hr, m_lay18 hb hr, m_lay19 hb hr, m_add13 hb hr, m_add14 hb hr, m_add16 hb hr, m_add17 hb hr, m_add18 hb hr, m_add19 hb hr, wZ_1, wZ_z, wZ_8, wZ_wZ]
    refine ZL_lay hr (k := 13) (by decide) (by decide) 0 ?_
    have t := ZL_id (G := G) (b := b) (wZ M (upd (M.2 1) (68 + 20 * r + 13) 0)) r
    rw [wZ_z, ZL_row (by decide) (by decide)] at t
    exact t
  simp only [f_X4_lookWaiting, Option.bind_some, b228_0, b228_1, b228_2, b228_3, m_v hb, m_R1 hb, m_R8 hb, m_a1 hb, m_a8 hb, m_of0 hb hr, m_of1 hb hr, m_of2 hb hr, m_of3 hb hr, m_of4 hb hr, m_of5 hb hr, m_of6 hb hr, m_of7 hb hr, m_of8 hb hr, m_of9 hb hr, m_of10 hb hr, m_of11 hb hr, m_of12 hb hr, m_of13 hb hr, m_of14 hb hr, m_of15 hb hr, m_of16 hb hr, m_of17 hb hr, m_of18 hb hr, m_of19 hb hr, m_lay0 hb hr, m_lay1 hb hr, m_lay2 hb hr, m_lay3 hb hr, m_lay4 hb hr, m_lay5 hb hr, m_lay6 hb hr, m_lay7 hb hr, m_lay8 hb hr, m_lay9 hb hr, m_lay10 hb hr, m_lay11 hb hr, m_lay12 hb hr, m_lay13 hb hr, m_lay14 hb hr, m_lay15 hb hr, m_lay16 hb hr, m_lay17 hb hr, m_lay18 hb hr, m_lay19 hb hr, m_add13 hb hr, m_add14 hb hr, m_add16 hb hr, m_add17 hb hr, m_add18 hb hr, m_add19 hb hr, wZ_1, wZ_z, wZ_8, wZ_wZ, hw, z_dis hb hr, z_miss hb hr, ite01]
  cases wn with
  | false =>
    simp only [Bool.false_eq_true, if_false, lkR, lkE, nl0_1, nl0_2, nl0_3, nl0_4, nl0_5, nl0_6, nl0_m1, nl1_0, nl1_2, nl1_3, nl1_4, nl1_5, nl1_6, nl1_m1, nl2_0, nl2_1, nl2_3, nl2_4, nl2_5, nl2_6, nl2_m1, nl3_0, nl3_1, nl3_2, nl3_4, nl3_5, nl3_6, nl3_m1, nl4_0, nl4_1, nl4_2, nl4_3, nl4_5, nl4_6, nl4_m1, nl5_0, nl5_1, nl5_2, nl5_3, nl5_4, nl5_6, nl5_m1, nl6_0, nl6_1, nl6_2, nl6_3, nl6_4, nl6_5, nl6_m1, nlm1_0, nlm1_1, nlm1_2, nlm1_3, nlm1_4, nlm1_5, nlm1_6]
    exact ZL_bind (fun _ => rfl) (z_becomeL hb hr hl)
  | true =>
    simp only [if_true]
    by_cases h1 : M.2 1 1 < rowZ (M.2 1) r 10
    · simp only [h1, if_true, not_true_eq_false, if_false, lkR, lkE]
      exact lay0
    · simp only [h1, if_false, not_false_eq_true, if_true, n10]
      by_cases h2 : badR (M.2 8) (rowZ (M.2 1)) r = -1
      · simp only [h2, if_true, ZL_row (M := M) (r := r) (k := 13) (by decide) (by decide), upd_s, upd_n (show 4 ≠ 13 by decide), wZ_z]
        refine ZL_lay hr (k := 13) (by decide) (by decide) (rowZ (M.2 1) r 13 + 1) ?_
        have e : rowZ ((wZ M (upd (M.2 1) (68 + 20 * r + 13) (rowZ (M.2 1) r 13 + 1))).2 1) r = upd (rowZ (M.2 1) r) 13 (rowZ (M.2 1) r 13 + 1) := ZL_row (by decide) (by decide) _
        by_cases h3 : rowZ (M.2 1) r 4 < rowZ (M.2 1) r 13 + 1
        · rw [if_neg (by rw [Int32.not_le]; exact h3)]
          simp only [h3, if_true, lkR, lkE, nl0_1, nl0_2, nl0_3, nl0_4, nl0_5, nl0_6, nl0_m1, nl1_0, nl1_2, nl1_3, nl1_4, nl1_5, nl1_6, nl1_m1, nl2_0, nl2_1, nl2_3, nl2_4, nl2_5, nl2_6, nl2_m1, nl3_0, nl3_1, nl3_2, nl3_4, nl3_5, nl3_6, nl3_m1, nl4_0, nl4_1, nl4_2, nl4_3, nl4_5, nl4_6, nl4_m1, nl5_0, nl5_1, nl5_2, nl5_3, nl5_4, nl5_6, nl5_m1, nl6_0, nl6_1, nl6_2, nl6_3, nl6_4, nl6_5, nl6_m1, nlm1_0, nlm1_1, nlm1_2, nlm1_3, nlm1_4, nlm1_5, nlm1_6, if_false]
          have t := z_becomeL (G := G) hb (M := wZ (wZ M (upd (M.2 1) (68 + 20 * r + 13) (rowZ (M.2 1) r 13 + 1))) (upd ((wZ M (upd (M.2 1) (68 + 20 * r + 13) (rowZ (M.2 1) r 13 + 1))).2 1) (68 + 20 * r + 13) 0)) hr (LRel_lay (LRel_lay hl)) (s := 2)
          have e2 := ZL_row (M := wZ M (upd (M.2 1) (68 + 20 * r + 13) (rowZ (M.2 1) r 13 + 1))) (r := r) (k := 13) (by decide) (by decide) 0
          rw [e] at e2
          simp only [wZ_z] at e2
          simp only [wZ_z, e2] at t
          refine ZL_lay hr (k := 13) (by decide) (by decide) 0 (ZL_bind (fun _ => rfl) ?_)
          simp only [wZ_z, wZ_wZ] at t ⊢
          exact t
        · rw [if_pos (by rw [← Int32.not_lt]; exact h3)]
          simp only [h3, if_false, lkR, lkE, if_true]
          have t := ZL_id (G := G) (b := b) (wZ M (upd (M.2 1) (68 + 20 * r + 13) (rowZ (M.2 1) r 13 + 1))) r
          rw [e] at t
          exact t
      · simp only [h2, if_false, lkR, lkE, if_true]
        exact lay0
theorem z_failL (hb : b ≤ 134) {M : MV} {r : Nat} (hr : r < 8) {l : LG} (hl : LRel l (M.2 1)) {s9 : Int32} (h9 : s9 = 2 ∨ s9 = 3) : ZL G b M r (f_X4_fail (hm G b M) b (nI r)) (lkR s9 (failR r (rowZ (M.2 1) r))) (lkE s9 r (failR r (rowZ (M.2 1) r))) := by
  have t := z_fail (G := G) hb (M := M) hr hl
  have hn : ¬ (failR r (rowZ (M.2 1) r)).1 = s9 := by
    unfold failR
    rcases h9 with h | h <;> subst h <;> by_cases h : rowZ (M.2 1) r 14 + 1 < rowZ (M.2 1) r 6 <;> simp only [h, if_true, if_false, nl0_1, nl0_2, nl0_3, nl0_4, nl0_5, nl0_6, nl0_m1, nl1_0, nl1_2, nl1_3, nl1_4, nl1_5, nl1_6, nl1_m1, nl2_0, nl2_1, nl2_3, nl2_4, nl2_5, nl2_6, nl2_m1, nl3_0, nl3_1, nl3_2, nl3_4, nl3_5, nl3_6, nl3_m1, nl4_0, nl4_1, nl4_2, nl4_3, nl4_5, nl4_6, nl4_m1, nl5_0, nl5_1, nl5_2, nl5_3, nl5_4, nl5_6, nl5_m1, nl6_0, nl6_1, nl6_2, nl6_3, nl6_4, nl6_5, nl6_m1, nlm1_0, nlm1_1, nlm1_2, nlm1_3, nlm1_4, nlm1_5, nlm1_6, not_false_eq_true]
  have e15 : (failR r (rowZ (M.2 1) r)).2 15 = nI r := by
    show upd (upd (upd (rowZ (M.2 1) r) 15 (nI r)) 14 (rowZ (M.2 1) r 14 + 1)) 18 (rowZ (M.2 1) r 18 + 1) 15 = nI r
    rw [upd_n (by decide), upd_n (by decide), upd_s]
  unfold lkR lkE
  rw [if_neg hn, if_neg hn, e15]
  exact t
theorem z_rising (hb : b ≤ 134) {M : MV} {r : Nat} (hr : r < 8) {l : LG} (hl : LRel l (M.2 1)) {wn : Bool} (hw : M.2 1 (68 + 20 * r + 8) = if wn = true then 1 else 0) {x : Int32 × (Nat → Int32)} (hx : x = (if wn = true then (if badR (M.2 8) (rowZ (M.2 1)) r = -1 then (if flgR (rowZ (M.2 1) r) = true then (3, upd (rowZ (M.2 1) r) 15 (-1)) else (if rowZ (M.2 1) r 13 + 1 < rowZ (M.2 1) r 5 then (2, upd (rowZ (M.2 1) r) 13 (rowZ (M.2 1) r 13 + 1)) else failR r (upd (rowZ (M.2 1) r) 13 (rowZ (M.2 1) r 13 + 1)))) else (4, upd (rowZ (M.2 1) r) 15 (badR (M.2 8) (rowZ (M.2 1)) r))) else (4, upd (rowZ (M.2 1) r) 15 (-1)))) :
    ZL G b M r (f_X4_lookRising (hm G b M) b (nI r)) (lkR 2 x) (lkE 2 r x) := by
  subst hx
  simp only [f_X4_lookRising, Option.bind_some, b228_0, b228_1, b228_2, b228_3, m_v hb, m_R1 hb, m_R8 hb, m_a1 hb, m_a8 hb, m_of0 hb hr, m_of1 hb hr, m_of2 hb hr, m_of3 hb hr, m_of4 hb hr, m_of5 hb hr, m_of6 hb hr, m_of7 hb hr, m_of8 hb hr, m_of9 hb hr, m_of10 hb hr, m_of11 hb hr, m_of12 hb hr, m_of13 hb hr, m_of14 hb hr, m_of15 hb hr, m_of16 hb hr, m_of17 hb hr, m_of18 hb hr, m_of19 hb hr, m_lay0 hb hr, m_lay1 hb hr, m_lay2 hb hr, m_lay3 hb hr, m_lay4 hb hr, m_lay5 hb hr, m_lay6 hb hr, m_lay7 hb hr, m_lay8 hb hr, m_lay9 hb hr, m_lay10 hb hr, m_lay11 hb hr, m_lay12 hb hr, m_lay13 hb hr, m_lay14 hb hr, m_lay15 hb hr, m_lay16 hb hr, m_lay17 hb hr, m_lay18 hb hr, m_lay19 hb hr, m_add13 hb hr, m_add14 hb hr, m_add16 hb hr, m_add17 hb hr, m_add18 hb hr, m_add19 hb hr, wZ_1, wZ_z, wZ_8, wZ_wZ, hw, z_flag hb hr, z_miss hb hr, ite01]
  cases wn with
  | false =>
    simp only [Bool.false_eq_true, if_false, lkR, lkE, nl0_1, nl0_2, nl0_3, nl0_4, nl0_5, nl0_6, nl0_m1, nl1_0, nl1_2, nl1_3, nl1_4, nl1_5, nl1_6, nl1_m1, nl2_0, nl2_1, nl2_3, nl2_4, nl2_5, nl2_6, nl2_m1, nl3_0, nl3_1, nl3_2, nl3_4, nl3_5, nl3_6, nl3_m1, nl4_0, nl4_1, nl4_2, nl4_3, nl4_5, nl4_6, nl4_m1, nl5_0, nl5_1, nl5_2, nl5_3, nl5_4, nl5_6, nl5_m1, nl6_0, nl6_1, nl6_2, nl6_3, nl6_4, nl6_5, nl6_m1, nlm1_0, nlm1_1, nlm1_2, nlm1_3, nlm1_4, nlm1_5, nlm1_6, upd_s]
    exact ZL_bind (fun _ => rfl) (z_becomeFor hb hr hl)
  | true =>
    simp only [if_true]
    by_cases h2 : badR (M.2 8) (rowZ (M.2 1)) r = -1
    · simp only [h2, if_true]
      by_cases h3 : flgR (rowZ (M.2 1) r) = true
      · simp only [h3, if_true, lkR, lkE, nl0_1, nl0_2, nl0_3, nl0_4, nl0_5, nl0_6, nl0_m1, nl1_0, nl1_2, nl1_3, nl1_4, nl1_5, nl1_6, nl1_m1, nl2_0, nl2_1, nl2_3, nl2_4, nl2_5, nl2_6, nl2_m1, nl3_0, nl3_1, nl3_2, nl3_4, nl3_5, nl3_6, nl3_m1, nl4_0, nl4_1, nl4_2, nl4_3, nl4_5, nl4_6, nl4_m1, nl5_0, nl5_1, nl5_2, nl5_3, nl5_4, nl5_6, nl5_m1, nl6_0, nl6_1, nl6_2, nl6_3, nl6_4, nl6_5, nl6_m1, nlm1_0, nlm1_1, nlm1_2, nlm1_3, nlm1_4, nlm1_5, nlm1_6, if_false, upd_s]
        exact ZL_bind (fun _ => rfl) (z_becomeFor hb hr hl)
      · rw [if_neg h3, if_neg h3]
        simp only [ZL_row (M := M) (r := r) (k := 13) (by decide) (by decide), upd_s, upd_n (show 5 ≠ 13 by decide), wZ_z]
        refine ZL_lay hr (k := 13) (by decide) (by decide) (rowZ (M.2 1) r 13 + 1) ?_
        have e : rowZ ((wZ M (upd (M.2 1) (68 + 20 * r + 13) (rowZ (M.2 1) r 13 + 1))).2 1) r = upd (rowZ (M.2 1) r) 13 (rowZ (M.2 1) r 13 + 1) := ZL_row (by decide) (by decide) _
        by_cases h4 : rowZ (M.2 1) r 13 + 1 < rowZ (M.2 1) r 5
        · simp only [h4, if_true, lkR, lkE]
          have t := ZL_id (G := G) (b := b) (wZ M (upd (M.2 1) (68 + 20 * r + 13) (rowZ (M.2 1) r 13 + 1))) r
          rw [e] at t
          exact t
        · simp only [h4, if_false]
          have t := z_failL (G := G) hb (M := wZ M (upd (M.2 1) (68 + 20 * r + 13) (rowZ (M.2 1) r 13 + 1))) hr (LRel_lay hl) (s9 := 2) (Or.inl rfl)
          rw [e] at t
          exact ZL_bind (fun _ => rfl) t
    · simp only [h2, if_false, lkR, lkE, nl0_1, nl0_2, nl0_3, nl0_4, nl0_5, nl0_6, nl0_m1, nl1_0, nl1_2, nl1_3, nl1_4, nl1_5, nl1_6, nl1_m1, nl2_0, nl2_1, nl2_3, nl2_4, nl2_5, nl2_6, nl2_m1, nl3_0, nl3_1, nl3_2, nl3_4, nl3_5, nl3_6, nl3_m1, nl4_0, nl4_1, nl4_2, nl4_3, nl4_5, nl4_6, nl4_m1, nl5_0, nl5_1, nl5_2, nl5_3, nl5_4, nl5_6, nl5_m1, nl6_0, nl6_1, nl6_2, nl6_3, nl6_4, nl6_5, nl6_m1, nlm1_0, nlm1_1, nlm1_2, nlm1_3, nlm1_4, nlm1_5, nlm1_6, upd_s]
      exact ZL_bind (fun _ => rfl) (z_becomeFor hb hr hl)
theorem z_good (hb : b ≤ 134) {M : MV} {r n : Nat} (hr : r < n) (hn : M.2 1 0 = nI n) (hn8 : n ≤ 8) {l : LG} (hl : LRel l (M.2 1)) {wn : Bool} (hw : M.2 1 (68 + 20 * r + 8) = if wn = true then 1 else 0) {x : Int32 × (Nat → Int32)} (hx : x = (if badR (M.2 8) (rowZ (M.2 1)) r = -1 then (if flgR (rowZ (M.2 1) r) = true then (if wn = true then (3, rowZ (M.2 1) r) else (if restF (M.2 8) (rowZ (M.2 1)) (M.2 1 1) r (r + 1) (n - (r + 1)) = true then (4, upd (rowZ (M.2 1) r) 15 (-1)) else (3, rowZ (M.2 1) r))) else failR r (rowZ (M.2 1) r)) else (4, upd (rowZ (M.2 1) r) 15 (badR (M.2 8) (rowZ (M.2 1)) r)))) :
    ZL G b M r (f_X4_lookGood (hm G b M) b (nI r)) (lkR 3 x) (lkE 3 r x) := by
  subst hx
  have hr8 : r < 8 := by omega
  have hr := hr8
  simp only [f_X4_lookGood, b_X4_lookGood_62, Option.bind_some, b228_0, b228_1, b228_2, b228_3, m_v hb, m_R1 hb, m_R8 hb, m_a1 hb, m_a8 hb, m_of0 hb hr, m_of1 hb hr, m_of2 hb hr, m_of3 hb hr, m_of4 hb hr, m_of5 hb hr, m_of6 hb hr, m_of7 hb hr, m_of8 hb hr, m_of9 hb hr, m_of10 hb hr, m_of11 hb hr, m_of12 hb hr, m_of13 hb hr, m_of14 hb hr, m_of15 hb hr, m_of16 hb hr, m_of17 hb hr, m_of18 hb hr, m_of19 hb hr, m_lay0 hb hr, m_lay1 hb hr, m_lay2 hb hr, m_lay3 hb hr, m_lay4 hb hr, m_lay5 hb hr, m_lay6 hb hr, m_lay7 hb hr, m_lay8 hb hr, m_lay9 hb hr, m_lay10 hb hr, m_lay11 hb hr, m_lay12 hb hr, m_lay13 hb hr, m_lay14 hb hr, m_lay15 hb hr, m_lay16 hb hr, m_lay17 hb hr, m_lay18 hb hr, m_lay19 hb hr, m_add13 hb hr, m_add14 hb hr, m_add16 hb hr, m_add17 hb hr, m_add18 hb hr, m_add19 hb hr, wZ_1, wZ_z, wZ_8, wZ_wZ, hw, z_flag hb hr, z_miss hb hr, z_used hb (by assumption) hn hn8, ite01]
  by_cases h2 : badR (M.2 8) (rowZ (M.2 1)) r = -1
  · simp only [h2, if_true]
    by_cases h3 : flgR (rowZ (M.2 1) r) = true
    · simp only [h3, if_true]
      cases wn with
      | true => 
        simp only [if_true, lkR, lkE]
        exact ZL_id M r
      | false =>
        simp only [Bool.false_eq_true, if_false]
        by_cases h4 : restF (M.2 8) (rowZ (M.2 1)) (M.2 1 1) r (r + 1) (n - (r + 1)) = true
        · simp only [h4, if_true, lkR, lkE, nl0_1, nl0_2, nl0_3, nl0_4, nl0_5, nl0_6, nl0_m1, nl1_0, nl1_2, nl1_3, nl1_4, nl1_5, nl1_6, nl1_m1, nl2_0, nl2_1, nl2_3, nl2_4, nl2_5, nl2_6, nl2_m1, nl3_0, nl3_1, nl3_2, nl3_4, nl3_5, nl3_6, nl3_m1, nl4_0, nl4_1, nl4_2, nl4_3, nl4_5, nl4_6, nl4_m1, nl5_0, nl5_1, nl5_2, nl5_3, nl5_4, nl5_6, nl5_m1, nl6_0, nl6_1, nl6_2, nl6_3, nl6_4, nl6_5, nl6_m1, nlm1_0, nlm1_1, nlm1_2, nlm1_3, nlm1_4, nlm1_5, nlm1_6, if_false, upd_s]
          exact ZL_bind (fun _ => rfl) (z_becomeFor hb hr hl)
        · simp only [h4, Bool.false_eq_true, if_false, n10, lkR, lkE, if_true]
          exact ZL_id M r
    · rw [if_neg h3, if_neg h3]
      exact ZL_bind (fun _ => rfl) (z_failL hb hr hl (Or.inr rfl))
  · simp only [h2, if_false, lkR, lkE, nl0_1, nl0_2, nl0_3, nl0_4, nl0_5, nl0_6, nl0_m1, nl1_0, nl1_2, nl1_3, nl1_4, nl1_5, nl1_6, nl1_m1, nl2_0, nl2_1, nl2_3, nl2_4, nl2_5, nl2_6, nl2_m1, nl3_0, nl3_1, nl3_2, nl3_4, nl3_5, nl3_6, nl3_m1, nl4_0, nl4_1, nl4_2, nl4_3, nl4_5, nl4_6, nl4_m1, nl5_0, nl5_1, nl5_2, nl5_3, nl5_4, nl5_6, nl5_m1, nl6_0, nl6_1, nl6_2, nl6_3, nl6_4, nl6_5, nl6_m1, nlm1_0, nlm1_1, nlm1_2, nlm1_3, nlm1_4, nlm1_5, nlm1_6, upd_s]
    exact ZL_bind (fun _ => rfl) (z_becomeFor hb hr hl)
theorem z_look (hb : b ≤ 134) {M : MV} {r n : Nat} (hr : r < n) (hn : M.2 1 0 = nI n) (hn8 : n ≤ 8) {l : LG} (hl : LRel l (M.2 1)) {w : Int32} (hw : M.2 1 (68 + 20 * r + 8) = if tb w r = true then 1 else 0) (h9 : M.2 8 r = rowZ (M.2 1) r 9) (hst : st6 (rowZ (M.2 1) r 9)) :
    ZL G b M r (f_X4_look (hm G b M) b (nI r)) (lookR (M.2 8) (rowZ (M.2 1)) w (M.2 1 1) n r) (entR (M.2 8) (rowZ (M.2 1)) w (M.2 1 1) n r) := by
  have hr8 : r < 8 := by omega
  show ZL G b M r _ (lkR (rowZ (M.2 1) r 9) (stepT (M.2 8) (rowZ (M.2 1)) w (M.2 1 1) n r)) (lkE (rowZ (M.2 1) r 9) r (stepT (M.2 8) (rowZ (M.2 1)) w (M.2 1 1) n r))
  have hs : f_X4_look (hm G b M) b (nI r) = b_X4_look_16 (hm G b M) b (nI r) (if tb w r = true then 1 else 0) := by
    have hr := hr8
    simp only [f_X4_look, Option.bind_some, b228_0, b228_1, b228_2, b228_3, m_v hb, m_R1 hb, m_R8 hb, m_a1 hb, m_a8 hb, m_of0 hb hr, m_of1 hb hr, m_of2 hb hr, m_of3 hb hr, m_of4 hb hr, m_of5 hb hr, m_of6 hb hr, m_of7 hb hr, m_of8 hb hr, m_of9 hb hr, m_of10 hb hr, m_of11 hb hr, m_of12 hb hr, m_of13 hb hr, m_of14 hb hr, m_of15 hb hr, m_of16 hb hr, m_of17 hb hr, m_of18 hb hr, m_of19 hb hr, m_lay0 hb hr, m_lay1 hb hr, m_lay2 hb hr, m_lay3 hb hr, m_lay4 hb hr, m_lay5 hb hr, m_lay6 hb hr, m_lay7 hb hr, m_lay8 hb hr, m_lay9 hb hr, m_lay10 hb hr, m_lay11 hb hr, m_lay12 hb hr, m_lay13 hb hr, m_lay14 hb hr, m_lay15 hb hr, m_lay16 hb hr, m_lay17 hb hr, m_lay18 hb hr, m_lay19 hb hr, m_add13 hb hr, m_add14 hb hr, m_add16 hb hr, m_add17 hb hr, m_add18 hb hr, m_add19 hb hr, wZ_1, wZ_z, wZ_8, wZ_wZ, hw]
    cases tb w r <;> rfl
  rw [hs]
  have hA : aI (hm G b M) (b + 4) (nI r) = some (rowZ (M.2 1) r 9) := by rw [m_a8 hb, bd_nI hr8 (by decide), h9]
  simp only [b_X4_look_16, m_R8 hb, Option.bind_some, hA, ite01]
  unfold stepT nsR
  by_cases e0 : rowZ (M.2 1) r 9 = 0
  · simp only [e0, if_true]
    by_cases hw1 : tb w r = true
    · have hr := hr8
      simp only [hw1, if_true, Option.bind_some, b228_0, b228_1, b228_2, b228_3, m_v hb, m_R1 hb, m_R8 hb, m_a1 hb, m_a8 hb, m_of0 hb hr, m_of1 hb hr, m_of2 hb hr, m_of3 hb hr, m_of4 hb hr, m_of5 hb hr, m_of6 hb hr, m_of7 hb hr, m_of8 hb hr, m_of9 hb hr, m_of10 hb hr, m_of11 hb hr, m_of12 hb hr, m_of13 hb hr, m_of14 hb hr, m_of15 hb hr, m_of16 hb hr, m_of17 hb hr, m_of18 hb hr, m_of19 hb hr, m_lay0 hb hr, m_lay1 hb hr, m_lay2 hb hr, m_lay3 hb hr, m_lay4 hb hr, m_lay5 hb hr, m_lay6 hb hr, m_lay7 hb hr, m_lay8 hb hr, m_lay9 hb hr, m_lay10 hb hr, m_lay11 hb hr, m_lay12 hb hr, m_lay13 hb hr, m_lay14 hb hr, m_lay15 hb hr, m_lay16 hb hr, m_lay17 hb hr, m_lay18 hb hr, m_lay19 hb hr, m_add13 hb hr, m_add14 hb hr, m_add16 hb hr, m_add17 hb hr, m_add18 hb hr, m_add19 hb hr, wZ_1, wZ_z, wZ_8, wZ_wZ, lkR, lkE, nl0_1, nl0_2, nl0_3, nl0_4, nl0_5, nl0_6, nl0_m1, nl1_0, nl1_2, nl1_3, nl1_4, nl1_5, nl1_6, nl1_m1, nl2_0, nl2_1, nl2_3, nl2_4, nl2_5, nl2_6, nl2_m1, nl3_0, nl3_1, nl3_2, nl3_4, nl3_5, nl3_6, nl3_m1, nl4_0, nl4_1, nl4_2, nl4_3, nl4_5, nl4_6, nl4_m1, nl5_0, nl5_1, nl5_2, nl5_3, nl5_4, nl5_6, nl5_m1, nl6_0, nl6_1, nl6_2, nl6_3, nl6_4, nl6_5, nl6_m1, nlm1_0, nlm1_1, nlm1_2, nlm1_3, nlm1_4, nlm1_5, nlm1_6, if_false]
      have e1 : rowZ (upd (M.2 1) (68 + 20 * r + 13) 0) r = upd (rowZ (M.2 1) r) 13 0 := ZL_row (by decide) (by decide) _
      have e2 := ZL_row (M := wZ M (upd (M.2 1) (68 + 20 * r + 13) 0)) (r := r) (k := 14) (by decide) (by decide) 0
      simp only [wZ_z, e1] at e2
      refine ZL_lay hr (k := 13) (by decide) (by decide) 0 (ZL_lay hr (k := 14) (by decide) (by decide) 0 ?_)
      have t := z_becomeL (G := G) hb (M := wZ (wZ M (upd (M.2 1) (68 + 20 * r + 13) 0)) (upd ((wZ M (upd (M.2 1) (68 + 20 * r + 13) 0)).2 1) (68 + 20 * r + 14) 0)) hr (LRel_lay (LRel_lay hl)) (s := 1)
      simp only [wZ_z, e2, wZ_wZ] at t ⊢
      exact ZL_bind (fun _ => rfl) t
    · simp only [hw1, Bool.false_eq_true, if_false, lkR, lkE, if_true]
      exact ZL_id M r
  · simp only [e0, if_false]
    by_cases e1 : rowZ (M.2 1) r 9 = 1
    · simp only [e1, if_true, m_v hb]
      refine ZL_bind (fun _ => rfl) (z_waiting hb hr8 hl hw ?_)
      simp only [Bool.not_eq_true', decide_eq_false_iff_not]
    · simp only [e1, if_false]
      by_cases e2 : rowZ (M.2 1) r 9 = 2
      · simp only [e2, if_true, m_v hb]
        exact ZL_bind (fun _ => rfl) (z_rising hb hr8 hl hw rfl)
      · simp only [e2, if_false]
        by_cases e3 : rowZ (M.2 1) r 9 = 3
        · simp only [e3, if_true, m_v hb]
          exact ZL_bind (fun _ => rfl) (z_good hb hr hn hn8 hl hw rfl)
        · simp only [e3, if_false]
          have hr := hr8
          by_cases e4 : rowZ (M.2 1) r 9 = 4
          · simp only [e4, if_true, Option.bind_some, b228_0, b228_1, b228_2, b228_3, m_v hb, m_R1 hb, m_R8 hb, m_a1 hb, m_a8 hb, m_of0 hb hr, m_of1 hb hr, m_of2 hb hr, m_of3 hb hr, m_of4 hb hr, m_of5 hb hr, m_of6 hb hr, m_of7 hb hr, m_of8 hb hr, m_of9 hb hr, m_of10 hb hr, m_of11 hb hr, m_of12 hb hr, m_of13 hb hr, m_of14 hb hr, m_of15 hb hr, m_of16 hb hr, m_of17 hb hr, m_of18 hb hr, m_of19 hb hr, m_lay0 hb hr, m_lay1 hb hr, m_lay2 hb hr, m_lay3 hb hr, m_lay4 hb hr, m_lay5 hb hr, m_lay6 hb hr, m_lay7 hb hr, m_lay8 hb hr, m_lay9 hb hr, m_lay10 hb hr, m_lay11 hb hr, m_lay12 hb hr, m_lay13 hb hr, m_lay14 hb hr, m_lay15 hb hr, m_lay16 hb hr, m_lay17 hb hr, m_lay18 hb hr, m_lay19 hb hr, m_add13 hb hr, m_add14 hb hr, m_add16 hb hr, m_add17 hb hr, m_add18 hb hr, m_add19 hb hr, wZ_1, wZ_z, wZ_8, wZ_wZ, z_dis hb hr]
            by_cases h1 : M.2 1 1 < rowZ (M.2 1) r 10
            · simp only [h1, if_true, decide_true, Bool.not_true, Bool.false_eq_true, if_false, lkR, lkE]
              exact ZL_id M r
            · simp only [h1, if_false, n10, decide_false, Bool.not_false, if_true]
              by_cases hw1 : tb w r = true
              · simp only [hw1, if_true, lkR, lkE, nl0_1, nl0_2, nl0_3, nl0_4, nl0_5, nl0_6, nl0_m1, nl1_0, nl1_2, nl1_3, nl1_4, nl1_5, nl1_6, nl1_m1, nl2_0, nl2_1, nl2_3, nl2_4, nl2_5, nl2_6, nl2_m1, nl3_0, nl3_1, nl3_2, nl3_4, nl3_5, nl3_6, nl3_m1, nl4_0, nl4_1, nl4_2, nl4_3, nl4_5, nl4_6, nl4_m1, nl5_0, nl5_1, nl5_2, nl5_3, nl5_4, nl5_6, nl5_m1, nl6_0, nl6_1, nl6_2, nl6_3, nl6_4, nl6_5, nl6_m1, nlm1_0, nlm1_1, nlm1_2, nlm1_3, nlm1_4, nlm1_5, nlm1_6, if_false, b_X4_look_136, b_X4_look_150, Option.bind_some, b228_0, b228_1, b228_2, b228_3, m_v hb, m_R1 hb, m_R8 hb, m_a1 hb, m_a8 hb, m_of0 hb hr, m_of1 hb hr, m_of2 hb hr, m_of3 hb hr, m_of4 hb hr, m_of5 hb hr, m_of6 hb hr, m_of7 hb hr, m_of8 hb hr, m_of9 hb hr, m_of10 hb hr, m_of11 hb hr, m_of12 hb hr, m_of13 hb hr, m_of14 hb hr, m_of15 hb hr, m_of16 hb hr, m_of17 hb hr, m_of18 hb hr, m_of19 hb hr, m_lay0 hb hr, m_lay1 hb hr, m_lay2 hb hr, m_lay3 hb hr, m_lay4 hb hr, m_lay5 hb hr, m_lay6 hb hr, m_lay7 hb hr, m_lay8 hb hr, m_lay9 hb hr, m_lay10 hb hr, m_lay11 hb hr, m_lay12 hb hr, m_lay13 hb hr, m_lay14 hb hr, m_lay15 hb hr, m_lay16 hb hr, m_lay17 hb hr, m_lay18 hb hr, m_lay19 hb hr, m_add13 hb hr, m_add14 hb hr, m_add16 hb hr, m_add17 hb hr, m_add18 hb hr, m_add19 hb hr, wZ_1, wZ_z, wZ_8, wZ_wZ, n10]
                refine ZL_lay hr (k := 13) (by decide) (by decide) 0 ?_
                have t := z_becomeL (G := G) hb (M := wZ M (upd (M.2 1) (68 + 20 * r + 13) 0)) hr (LRel_lay hl) (s := 1)
                rw [wZ_z, ZL_row (by decide) (by decide)] at t
                exact ZL_bind (fun _ => rfl) t
              · simp only [hw1, Bool.false_eq_true, if_false, lkR, lkE, nl0_1, nl0_2, nl0_3, nl0_4, nl0_5, nl0_6, nl0_m1, nl1_0, nl1_2, nl1_3, nl1_4, nl1_5, nl1_6, nl1_m1, nl2_0, nl2_1, nl2_3, nl2_4, nl2_5, nl2_6, nl2_m1, nl3_0, nl3_1, nl3_2, nl3_4, nl3_5, nl3_6, nl3_m1, nl4_0, nl4_1, nl4_2, nl4_3, nl4_5, nl4_6, nl4_m1, nl5_0, nl5_1, nl5_2, nl5_3, nl5_4, nl5_6, nl5_m1, nl6_0, nl6_1, nl6_2, nl6_3, nl6_4, nl6_5, nl6_m1, nlm1_0, nlm1_1, nlm1_2, nlm1_3, nlm1_4, nlm1_5, nlm1_6, if_true, b_X4_look_136, b_X4_look_150, Option.bind_some, b228_0, b228_1, b228_2, b228_3, m_v hb, m_R1 hb, m_R8 hb, m_a1 hb, m_a8 hb, m_of0 hb hr, m_of1 hb hr, m_of2 hb hr, m_of3 hb hr, m_of4 hb hr, m_of5 hb hr, m_of6 hb hr, m_of7 hb hr, m_of8 hb hr, m_of9 hb hr, m_of10 hb hr, m_of11 hb hr, m_of12 hb hr, m_of13 hb hr, m_of14 hb hr, m_of15 hb hr, m_of16 hb hr, m_of17 hb hr, m_of18 hb hr, m_of19 hb hr, m_lay0 hb hr, m_lay1 hb hr, m_lay2 hb hr, m_lay3 hb hr, m_lay4 hb hr, m_lay5 hb hr, m_lay6 hb hr, m_lay7 hb hr, m_lay8 hb hr, m_lay9 hb hr, m_lay10 hb hr, m_lay11 hb hr, m_lay12 hb hr, m_lay13 hb hr, m_lay14 hb hr, m_lay15 hb hr, m_lay16 hb hr, m_lay17 hb hr, m_lay18 hb hr, m_lay19 hb hr, m_add13 hb hr, m_add14 hb hr, m_add16 hb hr, m_add17 hb hr, m_add18 hb hr, m_add19 hb hr, wZ_1, wZ_z, wZ_8, wZ_wZ]
                refine ZL_lay hr (k := 13) (by decide) (by decide) (rowZ (M.2 1) r 13) ?_
                have t := z_becomeL (G := G) hb (M := wZ M (upd (M.2 1) (68 + 20 * r + 13) (rowZ (M.2 1) r 13))) hr (LRel_lay hl) (s := 0)
                rw [wZ_z, ZL_row (by decide) (by decide), upd_self] at t
                exact ZL_bind (fun _ => rfl) t
          · simp only [e4, if_false, Option.bind_some, b228_0, b228_1, b228_2, b228_3, m_v hb, m_R1 hb, m_R8 hb, m_a1 hb, m_a8 hb, m_of0 hb hr, m_of1 hb hr, m_of2 hb hr, m_of3 hb hr, m_of4 hb hr, m_of5 hb hr, m_of6 hb hr, m_of7 hb hr, m_of8 hb hr, m_of9 hb hr, m_of10 hb hr, m_of11 hb hr, m_of12 hb hr, m_of13 hb hr, m_of14 hb hr, m_of15 hb hr, m_of16 hb hr, m_of17 hb hr, m_of18 hb hr, m_of19 hb hr, m_lay0 hb hr, m_lay1 hb hr, m_lay2 hb hr, m_lay3 hb hr, m_lay4 hb hr, m_lay5 hb hr, m_lay6 hb hr, m_lay7 hb hr, m_lay8 hb hr, m_lay9 hb hr, m_lay10 hb hr, m_lay11 hb hr, m_lay12 hb hr, m_lay13 hb hr, m_lay14 hb hr, m_lay15 hb hr, m_lay16 hb hr, m_lay17 hb hr, m_lay18 hb hr, m_lay19 hb hr, m_add13 hb hr, m_add14 hb hr, m_add16 hb hr, m_add17 hb hr, m_add18 hb hr, m_add19 hb hr, wZ_1, wZ_z, wZ_8, wZ_wZ, z_dis hb hr]
            have e5 : rowZ (M.2 1) r 9 = 5 := by
              rcases hst with h | h | h | h | h | h <;> first | exact h | exact absurd h (by assumption)
            by_cases hw1 : tb w r = true
            · simp only [hw1, if_true, n10, if_false, lkR, lkE, e5]
              exact ZL_id M r
            · simp only [hw1, Bool.false_eq_true, if_false, if_true]
              by_cases h1 : M.2 1 1 < rowZ (M.2 1) r 10
              · simp only [h1, if_true, decide_true, Bool.not_true, Bool.false_eq_true, if_false, lkR, lkE, e5]
                exact ZL_id M r
              · simp only [h1, if_false, n10, decide_false, Bool.not_false, if_true, lkR, lkE, e5, nl0_1, nl0_2, nl0_3, nl0_4, nl0_5, nl0_6, nl0_m1, nl1_0, nl1_2, nl1_3, nl1_4, nl1_5, nl1_6, nl1_m1, nl2_0, nl2_1, nl2_3, nl2_4, nl2_5, nl2_6, nl2_m1, nl3_0, nl3_1, nl3_2, nl3_4, nl3_5, nl3_6, nl3_m1, nl4_0, nl4_1, nl4_2, nl4_3, nl4_5, nl4_6, nl4_m1, nl5_0, nl5_1, nl5_2, nl5_3, nl5_4, nl5_6, nl5_m1, nl6_0, nl6_1, nl6_2, nl6_3, nl6_4, nl6_5, nl6_m1, nlm1_0, nlm1_1, nlm1_2, nlm1_3, nlm1_4, nlm1_5, nlm1_6]
                exact ZL_bind (fun _ => rfl) (z_becomeL hb hr hl)
theorem z_moveV (hb : b ≤ 134) {M : MV} {r : Nat} (hr : r < 8) (hv : sm (rowZ (M.2 1) r 10)) (h0 : sm (rowZ (M.2 1) r 0)) (h1 : sm (rowZ (M.2 1) r 1)) (h2 : sm (rowZ (M.2 1) r 2)) :
    ZL G b M r (f_X4_moveVoltage (hm G b M) b (nI r)) (mvR (rowZ (M.2 1) r)) [] := by
  have hz : sm 0 := ⟨by decide, by decide⟩
  have e37 : ∀ s0 : Int32, b_X4_moveVoltage_37 (hm G b M) b (nI r) s0 = some (hm G b (wZ M (upd (M.2 1) (68 + 20 * r + 10) (if s0 = 0 then mvV 0 (rowZ (M.2 1) r 2) (rowZ (M.2 1) r 10) else mvV (rowZ (M.2 1) r 0) (rowZ (M.2 1) r 1) (rowZ (M.2 1) r 10))))) := by
    intro s0
    simp only [b_X4_moveVoltage_37, b_X4_moveVoltage_84, Option.bind_some, b228_0, b228_1, b228_2, b228_3, m_v hb, m_R1 hb, m_R8 hb, m_a1 hb, m_a8 hb, m_of0 hb hr, m_of1 hb hr, m_of2 hb hr, m_of3 hb hr, m_of4 hb hr, m_of5 hb hr, m_of6 hb hr, m_of7 hb hr, m_of8 hb hr, m_of9 hb hr, m_of10 hb hr, m_of11 hb hr, m_of12 hb hr, m_of13 hb hr, m_of14 hb hr, m_of15 hb hr, m_of16 hb hr, m_of17 hb hr, m_of18 hb hr, m_of19 hb hr, m_lay0 hb hr, m_lay1 hb hr, m_lay2 hb hr, m_lay3 hb hr, m_lay4 hb hr, m_lay5 hb hr, m_lay6 hb hr, m_lay7 hb hr, m_lay8 hb hr, m_lay9 hb hr, m_lay10 hb hr, m_lay11 hb hr, m_lay12 hb hr, m_lay13 hb hr, m_lay14 hb hr, m_lay15 hb hr, m_lay16 hb hr, m_lay17 hb hr, m_lay18 hb hr, m_lay19 hb hr, m_add13 hb hr, m_add14 hb hr, m_add16 hb hr, m_add17 hb hr, m_add18 hb hr, m_add19 hb hr, wZ_1, wZ_z, wZ_8, wZ_wZ, z_towards _ hv hz h2, z_towards _ hv h0 h1]
    by_cases h : s0 = 0 <;> simp only [h, if_true, if_false]
  have fin : ∀ x : Int32, ZL G b M r (some (hm G b (wZ M (upd (M.2 1) (68 + 20 * r + 10) x)))) (upd (rowZ (M.2 1) r) 10 x) [] := by
    intro x
    have t := ZL_id (G := G) (b := b) (wZ M (upd (M.2 1) (68 + 20 * r + 10) x)) r
    rw [wZ_z, ZL_row (by decide) (by decide)] at t
    exact ZL_lay hr (k := 10) (by decide) (by decide) x t
  simp only [f_X4_moveVoltage, b_X4_moveVoltage_22, b_X4_moveVoltage_36, Option.bind_some, b228_0, b228_1, b228_2, b228_3, m_v hb, m_R1 hb, m_R8 hb, m_a1 hb, m_a8 hb, m_of0 hb hr, m_of1 hb hr, m_of2 hb hr, m_of3 hb hr, m_of4 hb hr, m_of5 hb hr, m_of6 hb hr, m_of7 hb hr, m_of8 hb hr, m_of9 hb hr, m_of10 hb hr, m_of11 hb hr, m_of12 hb hr, m_of13 hb hr, m_of14 hb hr, m_of15 hb hr, m_of16 hb hr, m_of17 hb hr, m_of18 hb hr, m_of19 hb hr, m_lay0 hb hr, m_lay1 hb hr, m_lay2 hb hr, m_lay3 hb hr, m_lay4 hb hr, m_lay5 hb hr, m_lay6 hb hr, m_lay7 hb hr, m_lay8 hb hr, m_lay9 hb hr, m_lay10 hb hr, m_lay11 hb hr, m_lay12 hb hr, m_lay13 hb hr, m_lay14 hb hr, m_lay15 hb hr, m_lay16 hb hr, m_lay17 hb hr, m_lay18 hb hr, m_lay19 hb hr, m_add13 hb hr, m_add14 hb hr, m_add16 hb hr, m_add17 hb hr, m_add18 hb hr, m_add19 hb hr, wZ_1, wZ_z, wZ_8, wZ_wZ, e37, n10, if_true, if_false]
  unfold mvR fedR
  by_cases h2 : rowZ (M.2 1) r 9 = 2
  · by_cases h3 : rowZ (M.2 1) r 12 = 0
    · simp only [h2, h3, if_true, decide_true, Bool.true_or, Bool.and_self]
      exact fin _
    · simp only [h2, h3, if_true, if_false, decide_true, decide_false, Bool.true_or, Bool.and_false, Bool.false_eq_true]
      exact fin _
  · by_cases h4 : rowZ (M.2 1) r 9 = 3
    · by_cases h3 : rowZ (M.2 1) r 12 = 0
      · simp only [h4, h3, if_true, if_false, nl0_1, nl0_2, nl0_3, nl0_4, nl0_5, nl0_6, nl0_m1, nl1_0, nl1_2, nl1_3, nl1_4, nl1_5, nl1_6, nl1_m1, nl2_0, nl2_1, nl2_3, nl2_4, nl2_5, nl2_6, nl2_m1, nl3_0, nl3_1, nl3_2, nl3_4, nl3_5, nl3_6, nl3_m1, nl4_0, nl4_1, nl4_2, nl4_3, nl4_5, nl4_6, nl4_m1, nl5_0, nl5_1, nl5_2, nl5_3, nl5_4, nl5_6, nl5_m1, nl6_0, nl6_1, nl6_2, nl6_3, nl6_4, nl6_5, nl6_m1, nlm1_0, nlm1_1, nlm1_2, nlm1_3, nlm1_4, nlm1_5, nlm1_6, decide_true, decide_false, Bool.false_or, Bool.and_self]
        exact fin _
      · simp only [h4, h3, if_true, if_false, nl0_1, nl0_2, nl0_3, nl0_4, nl0_5, nl0_6, nl0_m1, nl1_0, nl1_2, nl1_3, nl1_4, nl1_5, nl1_6, nl1_m1, nl2_0, nl2_1, nl2_3, nl2_4, nl2_5, nl2_6, nl2_m1, nl3_0, nl3_1, nl3_2, nl3_4, nl3_5, nl3_6, nl3_m1, nl4_0, nl4_1, nl4_2, nl4_3, nl4_5, nl4_6, nl4_m1, nl5_0, nl5_1, nl5_2, nl5_3, nl5_4, nl5_6, nl5_m1, nl6_0, nl6_1, nl6_2, nl6_3, nl6_4, nl6_5, nl6_m1, nlm1_0, nlm1_1, nlm1_2, nlm1_3, nlm1_4, nlm1_5, nlm1_6, decide_true, decide_false, Bool.false_or, Bool.and_false, Bool.false_eq_true]
        exact fin _
    · simp only [h2, h4, if_false, decide_false, Bool.false_or, Bool.false_and, Bool.false_eq_true]
      exact fin _
