/-! a plant that stood still in a tick, with no short left, keeps its states -/
theorem add1_ne (x : Int32) : ¬ x + 1 = x := by
  intro h
  rw [← nI_nat x, nI_1] at h
  have h2 : (x.toBitVec.toNat + 1) % 2 ^ 32 = x.toBitVec.toNat % 2 ^ 32 := congrArg (fun y : Int32 => y.toBitVec.toNat) h
  omega
theorem fail45 (r : Nat) (row : Nat → Int32) : (failR r row).1 = 4 ∨ (failR r row).1 = 5 := by
  unfold failR
  by_cases h : row 14 + 1 < row 6
  · exact Or.inl (if_pos h)
  · exact Or.inr (if_neg h)
def stl (wn dis flag rest : Bool) (bad s9 t13 : Int32) : Prop :=
  (s9 = 0 ∧ wn = false) ∨ (s9 = 1 ∧ wn = true ∧ (dis = false ∨ ¬ bad = -1) ∧ t13 = 0) ∨ (s9 = 3 ∧ bad = -1 ∧ flag = true ∧ (wn = true ∨ rest = false)) ∨ (s9 = 4 ∧ dis = false) ∨ (s9 = 5 ∧ (wn = true ∨ dis = false))
theorem stl_of {wn dis flag rest : Bool} {bad : Int32} {r : Nat} {row : Nat → Int32} (h9 : st6 (row 9)) (h1 : (nsR wn dis flag rest bad r row).1 = row 9) (h13 : (nsR wn dis flag rest bad r row).2 13 = row 13) : stl wn dis flag rest bad (row 9) (row 13) := by
  unfold nsR at h1 h13
  rcases h9 with h | h | h | h | h | h
  · rw [if_pos h] at h1
    cases wn
    · exact Or.inl ⟨h, rfl⟩
    · rw [if_pos rfl, h] at h1
      exact absurd (show (1 : Int32) = 0 from h1) (by decide)
  · rw [if_neg (by rw [h]; decide), if_pos h] at h1 h13
    cases wn
    · rw [if_neg (by decide), h] at h1
      exact absurd (show (0 : Int32) = 1 from h1) (by decide)
    · rw [if_pos rfl] at h1 h13
      cases dis
      · rw [if_neg (by decide)] at h13
        exact Or.inr (Or.inl ⟨h, rfl, Or.inl rfl, Eq.symm (show (0 : Int32) = row 13 from (upd_s (f := row) (k := 13) (x := 0)).symm.trans h13)⟩)
      · rw [if_pos rfl] at h1 h13
        by_cases hb : bad = -1
        · rw [if_pos hb] at h1 h13
          by_cases hd : row 4 < row 13 + 1
          · rw [if_pos hd, h] at h1
            exact absurd (show (2 : Int32) = 1 from h1) (by decide)
          · rw [if_neg hd] at h13
            exact absurd ((upd_s (f := row) (k := 13) (x := row 13 + 1)).symm.trans h13) (add1_ne _)
        · rw [if_neg hb] at h13
          exact Or.inr (Or.inl ⟨h, rfl, Or.inr hb, Eq.symm (show (0 : Int32) = row 13 from (upd_s (f := row) (k := 13) (x := 0)).symm.trans h13)⟩)
  · rw [if_neg (by rw [h]; decide), if_neg (by rw [h]; decide), if_pos h] at h1 h13
    cases wn
    · rw [if_neg (by decide), h] at h1
      exact absurd (show (4 : Int32) = 2 from h1) (by decide)
    · rw [if_pos rfl] at h1 h13
      by_cases hb : bad = -1
      · rw [if_pos hb] at h1 h13
        cases flag
        · rw [if_neg (by decide)] at h1 h13
          by_cases hd : row 13 + 1 < row 5
          · rw [if_pos hd] at h13
            exact absurd ((upd_s (f := row) (k := 13) (x := row 13 + 1)).symm.trans h13) (add1_ne _)
          · rw [if_neg hd, h] at h1
            rcases fail45 r (upd row 13 (row 13 + 1)) with e | e
            · exact absurd (e.symm.trans h1) (by decide)
            · exact absurd (e.symm.trans h1) (by decide)
        · rw [if_pos rfl, h] at h1
          exact absurd (show (3 : Int32) = 2 from h1) (by decide)
      · rw [if_neg hb, h] at h1
        exact absurd (show (4 : Int32) = 2 from h1) (by decide)
  · rw [if_neg (by rw [h]; decide), if_neg (by rw [h]; decide), if_neg (by rw [h]; decide), if_pos h] at h1 h13
    by_cases hb : bad = -1
    · rw [if_pos hb] at h1 h13
      cases flag
      · rw [if_neg (by decide), h] at h1
        rcases fail45 r row with e | e
        · exact absurd (e.symm.trans h1) (by decide)
        · exact absurd (e.symm.trans h1) (by decide)
      · cases wn
        · cases rest
          · exact Or.inr (Or.inr (Or.inl ⟨h, hb, rfl, Or.inr rfl⟩))
          · rw [if_pos rfl, if_neg (by decide), if_pos rfl, h] at h1
            exact absurd (show (4 : Int32) = 3 from h1) (by decide)
        · exact Or.inr (Or.inr (Or.inl ⟨h, hb, rfl, Or.inl rfl⟩))
    · rw [if_neg hb, h] at h1
      exact absurd (show (4 : Int32) = 3 from h1) (by decide)
  · rw [if_neg (by rw [h]; decide), if_neg (by rw [h]; decide), if_neg (by rw [h]; decide), if_neg (by rw [h]; decide), if_pos h] at h1 h13
    cases dis
    · exact Or.inr (Or.inr (Or.inr (Or.inl ⟨h, rfl⟩)))
    · rw [if_pos rfl] at h1
      cases wn
      · rw [if_neg (by decide), h] at h1
        exact absurd (show (0 : Int32) = 4 from h1) (by decide)
      · rw [if_pos rfl, h] at h1
        exact absurd (show (1 : Int32) = 4 from h1) (by decide)
  · rw [if_neg (by rw [h]; decide), if_neg (by rw [h]; decide), if_neg (by rw [h]; decide), if_neg (by rw [h]; decide), if_neg (by rw [h]; decide)] at h1 h13
    cases wn
    · cases dis
      · exact Or.inr (Or.inr (Or.inr (Or.inr ⟨h, Or.inr rfl⟩)))
      · rw [if_neg (by decide), if_pos rfl, h] at h1
        exact absurd (show (0 : Int32) = 5 from h1) (by decide)
    · exact Or.inr (Or.inr (Or.inr (Or.inr ⟨h, Or.inl rfl⟩)))
theorem stl_ns {wn dis flag rest : Bool} {bad : Int32} (r : Nat) {row : Nat → Int32} (hs : stl wn dis flag rest bad (row 9) (row 13)) : nsR wn dis flag rest bad r row = (row 9, row) := by
  unfold nsR
  rcases hs with ⟨h, hw⟩ | ⟨h, hw, hd, ht⟩ | ⟨h, hb, hf, hw⟩ | ⟨h, hd⟩ | ⟨h, hw⟩
  · rw [if_pos h, hw, if_neg (by decide), h]
  · have e : upd row 13 0 = row := by
      have := upd_self row 13
      rw [ht] at this
      exact this
    rw [if_neg (by rw [h]; decide), if_pos h, hw, if_pos rfl, e, h]
    rcases hd with hd | hd
    · rw [hd, if_neg (by decide)]
    · cases dis
      · rw [if_neg (by decide)]
      · rw [if_pos rfl, if_neg hd]
  · rw [if_neg (by rw [h]; decide), if_neg (by rw [h]; decide), if_neg (by rw [h]; decide), if_pos h, if_pos hb, hf, if_pos rfl, h]
    rcases hw with hw | hw
    · rw [hw, if_pos rfl]
    · cases wn
      · rw [if_neg (by decide), hw, if_neg (by decide)]
      · rw [if_pos rfl]
  · rw [if_neg (by rw [h]; decide), if_neg (by rw [h]; decide), if_neg (by rw [h]; decide), if_neg (by rw [h]; decide), if_pos h, hd, if_neg (by decide), h]
  · rw [if_neg (by rw [h]; decide), if_neg (by rw [h]; decide), if_neg (by rw [h]; decide), if_neg (by rw [h]; decide), if_neg (by rw [h]; decide), h]
    rcases hw with hw | hw
    · rw [hw, if_pos rfl]
    · cases wn
      · rw [if_neg (by decide), hw, if_neg (by decide)]
      · rw [if_pos rfl]
theorem stl_dis {wn dis dis' flag rest : Bool} {bad s9 t13 : Int32} (hs : stl wn dis flag rest bad s9 t13) (h : s9 = 3 ∨ dis = dis') : stl wn dis' flag rest bad s9 t13 := by
  rcases h with h | h
  · rcases hs with hs | hs | hs | hs | hs
    · exact absurd (h.symm.trans hs.1) (by decide)
    · exact absurd (h.symm.trans hs.1) (by decide)
    · exact Or.inr (Or.inr (Or.inl hs))
    · exact absurd (h.symm.trans hs.1) (by decide)
    · exact absurd (h.symm.trans hs.1) (by decide)
  · rw [← h]
    exact hs
theorem restF_weak {S S' : Nat → Int32} {V V' : Nat → Nat → Int32} (res : Int32) (r : Nat) : ∀ (m lo : Nat), (∀ q, lo ≤ q → q < lo + m → S q = S' q ∧ V q 7 = V' q 7 ∧ (S q = 3 ∨ V q 10 = V' q 10)) → restF S V res r lo m = restF S' V' res r lo m := by
  intro m
  induction m with
  | zero => exact fun _ _ => rfl
  | succ m ih =>
    intro lo h
    obtain ⟨h1, h2, h3⟩ := h lo (by omega) (by omega)
    have hr := ih (lo + 1) (fun q a c => h q (by omega) (by omega))
    unfold restF
    rw [hr, ← h1, ← h2]
    rcases h3 with h3 | h3
    · have n1 : ∀ x : Int32, ¬ ((S lo = 0 ∨ S lo = 5) ∧ ¬ res < x) := by
        intro x hh
        rw [h3] at hh
        rcases hh.1 with hh | hh
        · exact absurd hh (by decide)
        · exact absurd hh (by decide)
      by_cases ht : tb (V lo 7) r = true
      · rw [if_pos ⟨ht, n1 _⟩, if_pos ⟨ht, n1 _⟩]
      · rw [if_neg (fun hh => ht hh.1), if_neg (fun hh => ht hh.1)]
    · rw [h3]
def JJ (w res : Int32) (n : Nat) (V : Nat → Nat → Int32) : Prop := ∀ r, r < n → V r 12 ≤ 0 ∧ stl (tb w r) (!decide (res < V r 10)) (flgR (V r)) (restF (fun q => V q 9) V res r (r + 1) (n - (r + 1))) (badR (fun q => V q 9) V r) (V r 9) (V r 13) ∧ (mvR (V r) = V r ∨ (V r 9 = 3 ∧ V r 11 = 2))
theorem endR_keep (row : Nat → Int32) {k : Nat} (h12 : k ≠ 12) (h19 : k ≠ 19) : endR row k = row k := by
  unfold endR
  split
  · rw [upd_n h19]
    split
    · rfl
    · rw [upd_n h12]
  · split
    · rfl
    · rw [upd_n h12]
theorem endR_12 (row : Nat → Int32) : endR row 12 = if row 12 ≤ 0 then row 12 else row 12 - 1 := by
  unfold endR
  by_cases h : row 9 = 3
  · rw [if_pos h, upd_n (by decide)]
    by_cases h2 : row 12 ≤ 0
    · rw [if_pos h2, if_pos h2]
    · rw [if_neg h2, if_neg h2, upd_s]
  · rw [if_neg h]
    by_cases h2 : row 12 ≤ 0
    · rw [if_pos h2, if_pos h2]
    · rw [if_neg h2, if_neg h2, upd_s]
theorem mvR_keep (row : Nat → Int32) {k : Nat} (h : k ≠ 10) : mvR row k = row k := upd_n h
def mvX (row : Nat → Int32) : Int32 := if fedR row = true then mvV (row 0) (row 1) (row 10) else mvV 0 (row 2) (row 10)
theorem mvR_eq (row : Nat → Int32) : mvR row = upd row 10 (mvX row) := rfl
theorem mvR_fix {row : Nat → Int32} (h : mvX row = row 10) : mvR row = row := by
  rw [mvR_eq, h, upd_self]
theorem mvX_of {row : Nat → Int32} (h : mvR row = row) : mvX row = row 10 := by
  have e := congrFun h 10
  rw [mvR_eq, upd_s] at e
  exact e
theorem mvX_congr {a c : Nat → Int32} (h : ∀ k, k = 0 ∨ k = 1 ∨ k = 2 ∨ k = 9 ∨ k = 10 ∨ k = 12 → a k = c k) : mvX a = mvX c := by
  unfold mvX fedR
  rw [h 0 (by omega), h 1 (by omega), h 2 (by omega), h 9 (by omega), h 10 (by omega), h 12 (by omega)]
/-- when what differs is the voltage of rails that are good with a flag stuck at true, and 12 and 19 -/
theorem stl_move {w res : Int32} {n : Nat} {V V' : Nat → Nat → Int32} (h : ∀ q, q < n → (∀ k, k ≠ 10 → k ≠ 12 → k ≠ 19 → V' q k = V q k) ∧ (V' q 10 = V q 10 ∨ (V q 9 = 3 ∧ V q 11 = 2))) {S' : Nat → Int32} (hS : ∀ q, q < n → S' q = V q 9) {r : Nat} (hr : r < n)
    (hs : stl (tb w r) (!decide (res < V r 10)) (flgR (V r)) (restF (fun q => V q 9) V res r (r + 1) (n - (r + 1))) (badR (fun q => V q 9) V r) (V r 9) (V r 13)) :
    stl (tb w r) (!decide (res < V' r 10)) (flgR (V' r)) (restF S' V' res r (r + 1) (n - (r + 1))) (badR S' V' r) (V' r 9) (V' r 13) := by
  have hf : ∀ q, q < n → flgR (V q) = flgR (V' q) := by
    intro q hq
    obtain ⟨h1, h2⟩ := h q hq
    rcases h2 with h2 | ⟨h2, h3⟩
    · refine flgR_congr (fun k hk => ?_)
      by_cases h10 : k = 10
      · rw [h10, h2]
      · exact (h1 k h10 (by omega) (by omega)).symm
    · unfold flgR flg
      rw [h1 11 (by decide) (by decide) (by decide), h3, if_neg (by decide), if_neg (by decide)]
  have hre : restF (fun q => V q 9) V res r (r + 1) (n - (r + 1)) = restF S' V' res r (r + 1) (n - (r + 1)) := by
    refine restF_weak res r _ _ (fun q q1 q2 => ?_)
    obtain ⟨h1, h2⟩ := h q (by omega)
    refine ⟨(hS q (by omega)).symm, (h1 7 (by decide) (by decide) (by decide)).symm, ?_⟩
    rcases h2 with h2 | ⟨h2, h3⟩
    · exact Or.inr h2.symm
    · exact Or.inl h2
  have hba : badR (fun q => V q 9) V r = badR S' V' r := by
    unfold badR
    rw [(h r hr).1 7 (by decide) (by decide) (by decide)]
    exact badF_congr _ _ _ (fun q q1 q2 => ⟨(hS q (by omega)).symm, hf q (by omega)⟩)
  rw [(h r hr).1 9 (by decide) (by decide) (by decide), (h r hr).1 13 (by decide) (by decide) (by decide), ← hf r hr, ← hre, ← hba]
  refine stl_dis hs ?_
  rcases (h r hr).2 with h2 | ⟨h2, h3⟩
  · exact Or.inr (by rw [h2])
  · exact Or.inl h2
/-- the new state of a rail -/
theorem look9 {S : Nat → Int32} {V : Nat → Nat → Int32} {w res : Int32} {n r : Nat} : lookR S V w res n r 9 = (stepT S V w res n r).1 := by
  unfold lookR
  by_cases h : (stepT S V w res n r).1 = V r 9
  · rw [if_pos h, h]
    exact nsR_keep _ _ _ _ _ _ _ _ (by decide) (by decide) (by decide) (by decide)
  · rw [if_neg h]
    unfold becR
    split
    · rw [upd_n (by decide), upd_s]
    · split
      · rw [upd_n (by decide), upd_s]
      · rw [upd_s]
theorem tk9 {V : Nat → Nat → Int32} {w res : Int32} {n r : Nat} (hr : r < n) : tkV V w res n r 9 = (stepT (fun q => V q 9) (rowsF (fun _ => mvR) V 0 n) w res n r).1 := by
  rw [tkV_in hr, endR_keep _ (by decide) (by decide), look9]
/-- a rail that steps nowhere: its row behind the tick -/
theorem tk_stl {V : Nat → Nat → Int32} {w res : Int32} {n r : Nat} (hr : r < n) (hs : stl (tb w r) (!decide (res < mvR (V r) 10)) (flgR (mvR (V r))) (restF (fun q => V q 9) (rowsF (fun _ => mvR) V 0 n) res r (r + 1) (n - (r + 1))) (badR (fun q => V q 9) (rowsF (fun _ => mvR) V 0 n) r) (mvR (V r) 9) (mvR (V r) 13)) : tkV V w res n r = endR (mvR (V r)) := by
  have e : stepT (fun q => V q 9) (rowsF (fun _ => mvR) V 0 n) w res n r = (mvR (V r) 9, mvR (V r)) := by
    unfold stepT
    rw [rowsF_in hr]
    exact stl_ns r hs
  rw [tkV_in hr]
  unfold lookR
  rw [e, rowsF_in hr, if_pos rfl]
theorem JJ_tick {w res : Int32} {n : Nat} {V V' : Nat → Nat → Int32} (h : JJ w res n V) (hV : ∀ r, r < n → V' r = tkV V w res n r) : JJ w res n V' ∧ ∀ r, r < n → V' r 9 = V r 9 := by
  have hmv : ∀ q, q < n → (∀ k, k ≠ 10 → k ≠ 12 → k ≠ 19 → rowsF (fun _ => mvR) V 0 n q k = V q k) ∧ (rowsF (fun _ => mvR) V 0 n q 10 = V q 10 ∨ (V q 9 = 3 ∧ V q 11 = 2)) := by
    intro q hq
    rw [rowsF_in hq]
    refine ⟨fun k h1 _ _ => mvR_keep _ h1, ?_⟩
    rcases (h q hq).2.2 with e | e
    · exact Or.inl (by rw [e])
    · exact Or.inr e
  have hend : ∀ r, r < n → V' r = endR (mvR (V r)) := by
    intro r hr
    rw [hV r hr]
    refine tk_stl hr ?_
    have t := stl_move (w := w) (res := res) hmv (S' := fun q => V q 9) (fun q hq => rfl) hr (h r hr).2.1
    rw [rowsF_in hr] at t
    exact t
  have hk : ∀ q, q < n → (∀ k, k ≠ 10 → k ≠ 12 → k ≠ 19 → V' q k = V q k) ∧ (V' q 10 = V q 10 ∨ (V q 9 = 3 ∧ V q 11 = 2)) := by
    intro q hq
    rw [hend q hq]
    refine ⟨fun k h1 h2 h3 => by rw [endR_keep _ h2 h3, mvR_keep _ h1], ?_⟩
    rcases (h q hq).2.2 with e | e
    · exact Or.inl (by rw [endR_keep _ (by decide) (by decide), e])
    · exact Or.inr e
  refine ⟨fun r hr => ⟨?_, ?_, ?_⟩, fun r hr => (hk r hr).1 9 (by decide) (by decide) (by decide)⟩
  · rw [hend r hr, endR_12, mvR_keep _ (by decide), if_pos (h r hr).1]
    exact (h r hr).1
  · exact stl_move (w := w) (res := res) hk (fun q hq => (hk q hq).1 9 (by decide) (by decide) (by decide)) hr (h r hr).2.1
  · rcases (h r hr).2.2 with e | ⟨e1, e2⟩
    · refine Or.inl ?_
      have e10 : V' r 10 = V r 10 := by rw [hend r hr, endR_keep _ (by decide) (by decide), e]
      refine mvR_fix ?_
      rw [e10, ← mvX_of e]
      refine mvX_congr (fun k hk' => ?_)
      by_cases h10 : k = 10
      · rw [h10, e10]
      · by_cases h12 : k = 12
        · rw [h12, hend r hr, endR_12, mvR_keep _ (by decide), if_pos (h r hr).1]
        · exact (hk r hr).1 k h10 h12 (by omega)
    · exact Or.inr ⟨((hk r hr).1 9 (by decide) (by decide) (by decide)).trans e1, ((hk r hr).1 11 (by decide) (by decide) (by decide)).trans e2⟩
/-- volts that stay where nothing feeds are none -/
theorem mv0 {f v : Int32} (hf : 1 ≤ f.toInt ∧ f.toInt ≤ 1000) (hv : 0 ≤ v.toInt ∧ v.toInt ≤ 5000) (h : mvV 0 f v = v) : v = 0 := by
  have e0 : (0 : Int32).toInt = 0 := rfl
  have e3 : (v - f).toInt = v.toInt - f.toInt := i_sub (by omega) (by omega)
  unfold mvV mmax at h
  rw [if_pos (by rw [Int32.le_iff_toInt_le]; omega)] at h
  have h' := congrArg Int32.toInt h
  split at h'
  · rw [e3] at h'
    omega
  · exact h.symm.trans (if_neg (by assumption)) |>.symm.symm
theorem JJ_first {w res : Int32} {n : Nat} {V V' : Nat → Nat → Int32} (hok : ∀ q, q < n → RowOK q (V q)) (hV : ∀ r, r < n → V' r = tkV V w res n r) (h12 : ∀ r, r < n → V' r 12 ≤ 0) (hst : ∀ r, r < n → V' r 9 = V r 9 ∧ V' r 10 = V r 10 ∧ V' r 13 = V r 13) : JJ w res n V' := by
  have hs1 : ∀ r, r < n → stl (tb w r) (!decide (res < mvR (V r) 10)) (flgR (mvR (V r))) (restF (fun q => V q 9) (rowsF (fun _ => mvR) V 0 n) res r (r + 1) (n - (r + 1))) (badR (fun q => V q 9) (rowsF (fun _ => mvR) V 0 n) r) (mvR (V r) 9) (mvR (V r) 13) := by
    intro r hr
    have e1 : (stepT (fun q => V q 9) (rowsF (fun _ => mvR) V 0 n) w res n r).1 = mvR (V r) 9 := by
      rw [← tk9 hr, ← hV r hr, (hst r hr).1, mvR_keep _ (by decide)]
    have e13 : (stepT (fun q => V q 9) (rowsF (fun _ => mvR) V 0 n) w res n r).2 13 = mvR (V r) 13 := by
      have t := congrFun (hV r hr) 13
      rw [tkV_in hr, endR_keep _ (by decide) (by decide)] at t
      unfold lookR at t
      rw [rowsF_in hr, if_pos e1, (hst r hr).2.2] at t
      rw [← t, mvR_keep _ (by decide)]
    unfold stepT at e1 e13
    rw [rowsF_in hr] at e1 e13
    exact stl_of (mvR_ok (hok r hr)).2.2.2.2.2.1 e1 e13
  have hend : ∀ r, r < n → V' r = endR (mvR (V r)) := fun r hr => (hV r hr).trans (tk_stl hr (hs1 r hr))
  have hfix : ∀ r, r < n → mvR (V r) = V r := by
    intro r hr
    refine mvR_fix ?_
    have t := (hst r hr).2.1
    rw [hend r hr, endR_keep _ (by decide) (by decide), mvR_eq, upd_s] at t
    exact t
  have hend' : ∀ r, r < n → V' r = endR (V r) := fun r hr => by rw [hend r hr, hfix r hr]
  have hs2 : ∀ r, r < n → stl (tb w r) (!decide (res < V r 10)) (flgR (V r)) (restF (fun q => V q 9) V res r (r + 1) (n - (r + 1))) (badR (fun q => V q 9) V r) (V r 9) (V r 13) := by
    intro r hr
    have t := hs1 r hr
    rw [hfix r hr] at t
    have e1 : restF (fun q => V q 9) (rowsF (fun _ => mvR) V 0 n) res r (r + 1) (n - (r + 1)) = restF (fun q => V q 9) V res r (r + 1) (n - (r + 1)) := by
      refine restF_weak res r _ _ (fun q q1 q2 => ?_)
      rw [rowsF_in (show q < n by omega), hfix q (by omega)]
      exact ⟨rfl, rfl, Or.inr rfl⟩
    have e2 : badR (fun q => V q 9) (rowsF (fun _ => mvR) V 0 n) r = badR (fun q => V q 9) V r := by
      unfold badR
      rw [rowsF_in hr, hfix r hr]
      refine badF_congr _ _ _ (fun q q1 q2 => ?_)
      rw [rowsF_in (show q < n by omega), hfix q (by omega)]
      exact ⟨rfl, rfl⟩
    rw [e1, e2] at t
    exact t
  have hk : ∀ q, q < n → (∀ k, k ≠ 10 → k ≠ 12 → k ≠ 19 → V' q k = V q k) ∧ (V' q 10 = V q 10 ∨ (V q 9 = 3 ∧ V q 11 = 2)) := by
    intro q hq
    refine ⟨fun k h1 h2 h3 => by rw [hend' q hq, endR_keep _ h2 h3], Or.inl (hst q hq).2.1⟩
  refine fun r hr => ⟨h12 r hr, stl_move (w := w) (res := res) hk (fun q hq => (hst q hq).1) hr (hs2 r hr), ?_⟩
  have hx := mvX_of (hfix r hr)
  obtain ⟨a0, a1, a2, a3, a7, a9, a10, a12, a15⟩ := hok r hr
  by_cases hp : V r 12 ≤ 0
  · refine Or.inl (mvR_fix ?_)
    rw [(hst r hr).2.1, ← hx]
    refine mvX_congr (fun k hk' => ?_)
    by_cases hk10 : k = 10
    · rw [hk10, (hst r hr).2.1]
    · by_cases hk12 : k = 12
      · rw [hk12, hend' r hr, endR_12, if_pos hp]
      · exact (hk r hr).1 k hk10 hk12 (by omega)
  · have hp0 : ¬ V r 12 = 0 := fun e => hp (by rw [e]; decide)
    have hfed : fedR (V r) = false := by
      unfold fedR
      rw [decide_eq_false hp0, Bool.and_false]
    unfold mvX at hx
    rw [hfed, if_neg (by decide)] at hx
    have hv0 : V r 10 = 0 := mv0 a2 a10 hx
    by_cases h3 : V r 9 = 3
    · refine Or.inr ⟨(hst r hr).1.trans h3, ?_⟩
      rw [(hk r hr).1 11 (by decide) (by decide) (by decide)]
      rcases hs2 r hr with hs | hs | hs | hs | hs
      · exact absurd (h3.symm.trans hs.1) (by decide)
      · exact absurd (h3.symm.trans hs.1) (by decide)
      · have hf := hs.2.2.1
        unfold flgR flg at hf
        by_cases h11 : V r 11 = 0
        · rw [if_pos h11, hv0] at hf
          obtain ⟨a, b1, b2, ea⟩ := nat_of (by decide) a0
          obtain ⟨d, b3, b4, ed⟩ := nat_of (by decide) a3
          rw [ea, ed, show (0 : Int32) * 100 = nI 0 from rfl, pk_mul] at hf
          have hle : 1 * 1 ≤ a * d := Nat.mul_le_mul (by omega) (by omega)
          have hle2 : a * d ≤ 5000 * 100 := Nat.mul_le_mul (by omega) (by omega)
          rw [decide_eq_true (by rw [nI_ltI (by decide) (by omega)]; omega)] at hf
          exact absurd hf (by decide)
        · rw [if_neg h11] at hf
          exact of_decide_eq_true hf
      · exact absurd (h3.symm.trans hs.1) (by decide)
      · exact absurd (h3.symm.trans hs.1) (by decide)
    · refine Or.inl (mvR_fix ?_)
      have h2 : ¬ V r 9 = 2 := by
        intro e
        rcases hs2 r hr with hs | hs | hs | hs | hs <;> exact absurd (e.symm.trans hs.1) (by decide)
      have hfed' : fedR (V' r) = false := by
        unfold fedR
        rw [(hst r hr).1, decide_eq_false h2, decide_eq_false h3]
        rfl
      unfold mvX
      rw [hfed', if_neg (by decide), (hk r hr).1 2 (by decide) (by decide) (by decide), (hst r hr).2.1]
      exact hx

