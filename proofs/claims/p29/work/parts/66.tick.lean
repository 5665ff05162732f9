/-! commands: tick -/
/-- a tick of the plant: from P to P' -/
def PT (n : Nat) (P P' : PV) : Prop := (∀ r, r < n → rowP P' r = tkV (rowP P) (P.1 3) (P.1 2) n r) ∧ P'.1 0 = P.1 0 ∧ P'.1 1 = P.1 1 + 1 ∧ P'.1 2 = P.1 2 ∧ P'.1 3 = P.1 3 ∧ lgP P' = (tkE (rowP P) (P.1 3) (P.1 2) n).foldl (pushL (P.1 1)) (lgP P) ∧ ∀ r, r < 8 → P'.2 15 r = P.2 6 r ∧ P'.2 16 r = P.2 7 r ∧ P'.2 17 r = P.2 10 r
def eN (n : Nat) (P : PV) : Int32 := nI (tkE (rowP P) (P.1 3) (P.1 2) n).length
/-- m ticks of the plant, d entries -/
def PTs (n : Nat) : Nat → PV → PV → Int32 → Prop
  | 0 => fun P P' d => P' = P ∧ d = 0
  | m + 1 => fun P P' d => ∃ P1 d1, PT n P P1 ∧ PTs n m P1 P' d1 ∧ d = eN n P + d1
variable {G H : GB} {b : Nat}
theorem p_tick (hb : b ≤ 122) {P : PV} {n : Nat} (hn8 : n ≤ 8) (h0 : P.1 0 = nI n) : ∃ P', f_X1_passTick (hp G b P) b = some (eN n P, hp G b P') ∧ PT n P P' := by
  obtain ⟨P', a1, a2, a3, a4, a5, a6, a7, a8⟩ := a_passTick (G := G) (P := P) hb hn8 h0
  exact ⟨P', a1, a2, a3, a4, a5, a6, a7, a8⟩
/-- accounts behind a tick -/
theorem tk19 {V : Nat → Nat → Int32} {w res : Int32} {n r : Nat} (hr : r < n) : tkV V w res n r 19 = V r 19 ∨ tkV V w res n r 19 = V r 19 + 1 := by
  rw [tkV_in hr]
  have e : lookR (fun q => V q 9) (rowsF (fun _ => mvR) V 0 n) w res n r 19 = V r 19 := by
    rw [lookR_keep _ _ _ _ _ _ _ (by omega), rowsF_in hr]
    exact upd_n (by decide)
  unfold endR
  split
  · right
    rw [upd_s, e]
  · left
    split
    · exact e
    · rw [upd_n (by decide)]
      exact e
theorem AZ_tick {n : Nat} {P P' : PV} (h : AZ n P) (hp : PT n P P') (ht : (P.1 1).toInt < 20000) : AZ n P' := by
  obtain ⟨⟨h1, h2⟩, h3⟩ := h
  have e1 : (1 : Int32).toInt = 1 := rfl
  have et : (P'.1 1).toInt = (P.1 1).toInt + 1 := by rw [hp.2.2.1, i_add (by omega) (by omega)]; rfl
  refine ⟨by omega, fun q hq => ?_⟩
  obtain ⟨h4, h5⟩ := h3 q hq
  rw [hp.1 q hq]
  rcases tk19 (V := rowP P) (w := P.1 3) (res := P.1 2) hq with e | e
  · rw [e]; omega
  · rw [e, i_add (by omega) (by omega), e1]; omega
theorem AZ_ticks {n : Nat} : ∀ (m : Nat) (P P' : PV) (d : Int32), AZ n P → PTs n m P P' d → (P.1 1).toInt + m ≤ 20000 → AZ n P' := by
  intro m
  induction m with
  | zero =>
    intro P P' d h hp ht
    rw [hp.1]
    exact h
  | succ m ih =>
    intro P P' d h hp ht
    obtain ⟨P1, d1, h1, h2, h3⟩ := hp
    have et : (P1.1 1).toInt = (P.1 1).toInt + 1 := by
      have e1 : (1 : Int32).toInt = 1 := rfl
      have := h.1
      rw [h1.2.2.1, i_add (by omega) (by omega)]
      rfl
    exact ih P1 P' d1 (AZ_tick h h1 (by omega)) h2 (by omega)
variable {T : TS}
