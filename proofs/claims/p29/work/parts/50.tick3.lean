/-! a whole tick of the plant; a tick speaks only of the rails that there are -/
theorem stepT_congr {S S' : Nat → Int32} {V V' : Nat → Nat → Int32} {w w' res : Int32} {n r : Nat} (hr : r < n) (h : ∀ q, q < n → S q = S' q ∧ V q = V' q) (hw : tb w r = tb w' r) : stepT S V w res n r = stepT S' V' w' res n r := by
  unfold stepT badR
  rw [badF_congr _ _ _ (fun q h1 h2 => ⟨(h q (by omega)).1, by rw [(h q (by omega)).2]⟩), restF_congr (S' := S') (V' := V') _ _ _ _ (fun q h1 h2 => ⟨(h q (by omega)).1, by rw [(h q (by omega)).2], by rw [(h q (by omega)).2]⟩), (h r hr).2, hw]
theorem lookR_congr {S S' : Nat → Int32} {V V' : Nat → Nat → Int32} {w w' res : Int32} {n r : Nat} (hr : r < n) (h : ∀ q, q < n → S q = S' q ∧ V q = V' q) (hw : tb w r = tb w' r) : lookR S V w res n r = lookR S' V' w' res n r := by
  unfold lookR
  rw [stepT_congr hr h hw, (h r hr).2]
theorem entF_congr {S S' : Nat → Int32} {V V' : Nat → Nat → Int32} {w w' res : Int32} {n : Nat} (h : ∀ q, q < n → S q = S' q ∧ V q = V' q) (hw : ∀ q, q < n → tb w q = tb w' q) : ∀ m r, r + m ≤ n → entF S V w res n r m = entF S' V' w' res n r m := by
  intro m
  induction m with
  | zero => intro r _; rfl
  | succ m ih =>
    intro r hr
    unfold entF entR
    rw [ih (r + 1) (by omega), stepT_congr (by omega) h (hw r (by omega)), (h r (by omega)).2]
theorem rowsF_in {F : Nat → (Nat → Int32) → (Nat → Int32)} {V : Nat → Nat → Int32} {n r : Nat} (hr : r < n) : rowsF F V 0 n r = F r (V r) := by
  unfold rowsF
  rw [if_pos (by omega)]
theorem tkV_in {V : Nat → Nat → Int32} {w res : Int32} {n r : Nat} (hr : r < n) : tkV V w res n r = endR (lookR (fun q => V q 9) (rowsF (fun _ => mvR) V 0 n) w res n r) := by
  unfold tkV
  rw [rowsF_in hr]
  congr 1
  exact if_pos hr
theorem mv_congr {V V' : Nat → Nat → Int32} {n : Nat} (h : ∀ q, q < n → V q = V' q) : ∀ q, q < n → rowsF (fun _ => mvR) V 0 n q = rowsF (fun _ => mvR) V' 0 n q := by
  intro q hq
  rw [rowsF_in hq, rowsF_in hq, h q hq]
theorem tkV_congr {V V' : Nat → Nat → Int32} {w w' res : Int32} {n : Nat} (h : ∀ q, q < n → V q = V' q) (hw : ∀ q, q < n → tb w q = tb w' q) : ∀ r, r < n → tkV V w res n r = tkV V' w' res n r := by
  intro r hr
  rw [tkV_in hr, tkV_in hr, lookR_congr hr (fun q hq => ⟨by rw [h q hq], mv_congr h q hq⟩) (hw r hr)]
theorem tkE_congr {V V' : Nat → Nat → Int32} {w w' res : Int32} {n : Nat} (h : ∀ q, q < n → V q = V' q) (hw : ∀ q, q < n → tb w q = tb w' q) : tkE V w res n = tkE V' w' res n :=
  entF_congr (fun q hq => ⟨by rw [h q hq], mv_congr h q hq⟩) hw n 0 (by omega)
variable {G : GB} {b : Nat} {P : PV}
theorem a_passTick (hb : b ≤ 122) {n : Nat} (hn8 : n ≤ 8) (hn : P.1 0 = nI n) :
    ∃ P', f_X1_passTick (hp G b P) b = some (nI (tkE (rowP P) (P.1 3) (P.1 2) n).length, hp G b P') ∧ (∀ r, r < n → rowP P' r = tkV (rowP P) (P.1 3) (P.1 2) n r) ∧ P'.1 0 = P.1 0 ∧ P'.1 1 = P.1 1 + 1 ∧ P'.1 2 = P.1 2 ∧ P'.1 3 = P.1 3 ∧ lgP P' = (tkE (rowP P) (P.1 3) (P.1 2) n).foldl (pushL (P.1 1)) (lgP P) ∧ ∀ r, r < 8 → P'.2 15 r = P.2 6 r ∧ P'.2 16 r = P.2 7 r ∧ P'.2 17 r = P.2 10 r := by
  obtain ⟨P1, a1, a2, a3, a4, a5⟩ := a_remember (G := G) (P := P) hb
  obtain ⟨P2, b1, b2, b3, b4⟩ := a_move (G := G) (P := P1) hb hn8 (by rw [a3]; exact hn)
  have hS : ∀ q, q < 8 → P2.2 15 q = rowP P q 9 := by
    intro q hq
    rw [b4 15 (by omega), (a5 q hq).1]
    rfl
  obtain ⟨P3, c1, c2, c3, c4, c5, c6, c7, c8⟩ := a_tickLoop (G := G) hb hn8 (rowP P2) n 0 FU P2 0 (by rw [b3, a3]; exact hn) (rowsT_0 _ _).symm (by omega) (by rw [FU_eq]; omega)
  have hrows : rowP P2 = rowsF (fun _ => mvR) (rowP P) 0 n := by rw [b2, a2]
  have hsc : P2.1 = P.1 := by rw [b3, a3]
  rw [hrows, hsc] at c1 c2 c7
  rw [hsc] at c3 c4 c5 c6
  have hent : entF (P2.2 15) (rowsF (fun _ => mvR) (rowP P) 0 n) (P.1 3) (P.1 2) n 0 n = tkE (rowP P) (P.1 3) (P.1 2) n := entF_congr (fun q hq => ⟨hS q (by omega), rfl⟩) (fun _ _ => rfl) n 0 (by omega)
  rw [hent] at c1 c7
  refine ⟨P3, ?_, fun r hr => ?_, c3, c4, c5, c6, ?_, fun r hr => ?_⟩
  · unfold f_X1_passTick
    simp only [p_v1 hb, a1, Option.bind_some, b1]
    rw [show (0 : Int32) = nI 0 from rfl] at c1 ⊢
    rw [c1, nI_add, Nat.zero_add]
  · rw [c2, rowsF_in hr, tkV_in hr]
    congr 1
    exact (if_pos hr).trans (lookR_congr hr (fun q hq => ⟨hS q (by omega), rfl⟩) rfl)
  · rw [c7]
    congr 1
    unfold lgP
    rw [hsc, b4 14 (by omega), a4 14 (by omega) (by omega) (by omega)]
  · obtain ⟨d1, d2, d3⟩ := a5 r hr
    rw [c8 15 (by omega), c8 16 (by omega), c8 17 (by omega), b4 15 (by omega), b4 16 (by omega), b4 17 (by omega)]
    exact ⟨d1, d2, d3⟩

