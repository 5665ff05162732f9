/-! a tick without the accounts -/
def R6 (a b : Nat → Int32) : Prop := ∀ k, k < 16 → a k = b k
def E2 (x y : Int32 × (Nat → Int32)) : Prop := x.1 = y.1 ∧ R6 x.2 y.2
theorem R6_upd {a b : Nat → Int32} (h : R6 a b) (k : Nat) (x : Int32) : R6 (upd a k x) (upd b k x) := by
  intro i hi
  unfold upd
  split
  · rfl
  · exact h i hi
theorem R6_hi {a b : Nat → Int32} (h : R6 a b) {k : Nat} (hk : 16 ≤ k) (x y : Int32) : R6 (upd a k x) (upd b k y) := by
  intro i hi
  rw [upd_n (by omega), upd_n (by omega)]
  exact h i hi
theorem E2_ite {c : Prop} [Decidable c] {x y x' y' : Int32 × (Nat → Int32)} (h : E2 x y) (h' : E2 x' y') : E2 (if c then x else x') (if c then y else y') := by
  split
  · exact h
  · exact h'
theorem R6_ite {c : Prop} [Decidable c] {x y x' y' : Nat → Int32} (h : R6 x y) (h' : R6 x' y') : R6 (if c then x else x') (if c then y else y') := by
  split
  · exact h
  · exact h'
theorem mv_cut {a b : Nat → Int32} (h : R6 a b) : R6 (mvR a) (mvR b) := by
  rw [mvR_eq, mvR_eq, mvX_congr (a := a) (c := b) (fun k hk => h k (by omega))]
  exact R6_upd h _ _
theorem flg_cut {a b : Nat → Int32} (h : R6 a b) : flgR a = flgR b := by
  unfold flgR
  rw [h 11 (by decide), h 10 (by decide), h 0 (by decide), h 3 (by decide)]
theorem fail_cut (r : Nat) {a b : Nat → Int32} (h : R6 a b) : E2 (failR r a) (failR r b) := by
  unfold failR
  rw [h 14 (by decide), h 6 (by decide)]
  exact ⟨rfl, R6_hi (R6_upd (R6_upd h _ _) _ _) (by decide) _ _⟩
theorem ns_cut (wn dis flag rest : Bool) (bad : Int32) (r : Nat) {a b : Nat → Int32} (h : R6 a b) : E2 (nsR wn dis flag rest bad r a) (nsR wn dis flag rest bad r b) := by
  have e0 : ∀ x, E2 (x, a) (x, b) := fun x => ⟨rfl, h⟩
  have e1 : ∀ x k y, E2 (x, upd a k y) (x, upd b k y) := fun x k y => ⟨rfl, R6_upd h _ _⟩
  have e2 : ∀ x k y k' y', E2 (x, upd (upd a k y) k' y') (x, upd (upd b k y) k' y') := fun x k y k' y' => ⟨rfl, R6_upd (R6_upd h _ _) _ _⟩
  have f1 : ∀ k y, E2 (failR r (upd a k y)) (failR r (upd b k y)) := fun k y => fail_cut r (R6_upd h _ _)
  unfold nsR
  rw [h 9 (by decide), h 13 (by decide), h 4 (by decide), h 5 (by decide)]
  refine E2_ite (E2_ite (e2 _ _ _ _ _) (e0 _)) (E2_ite (E2_ite (E2_ite (E2_ite (E2_ite (e2 _ _ _ _ _) (e1 _ _ _)) (e1 _ _ _)) (e1 _ _ _)) (e0 _)) (E2_ite (E2_ite (E2_ite (E2_ite (e1 _ _ _) (E2_ite (e1 _ _ _) (f1 _ _))) (e1 _ _ _)) (e1 _ _ _)) (E2_ite (E2_ite (E2_ite (E2_ite (e0 _) (E2_ite (e1 _ _ _) (e0 _))) (fail_cut r h)) (e1 _ _ _)) (E2_ite (E2_ite (E2_ite (e1 _ _ _) (e0 _)) (e0 _)) (E2_ite (e0 _) (E2_ite (e0 _) (e0 _)))))))
theorem bec_cut (s : Int32) {a b : Nat → Int32} (h : R6 a b) : R6 (becR s a) (becR s b) := by
  unfold becR
  exact R6_ite (R6_hi (R6_upd h _ _) (by decide) _ _) (R6_ite (R6_hi (R6_upd h _ _) (by decide) _ _) (R6_upd h _ _))
theorem end_cut {a b : Nat → Int32} (h : R6 a b) : R6 (endR a) (endR b) := by
  unfold endR
  rw [h 9 (by decide), h 12 (by decide)]
  exact R6_ite (R6_hi (R6_ite h (R6_upd h _ _)) (by decide) _ _) (R6_ite h (R6_upd h _ _))
variable {S S' : Nat → Int32} {V V' : Nat → Nat → Int32} {n : Nat}
theorem bad_cut (nd : Int32) : ∀ m k, (∀ q, q < k + m → S q = S' q ∧ R6 (V q) (V' q)) → badF S V nd k m = badF S' V' nd k m := by
  intro m
  induction m with
  | zero => exact fun _ _ => rfl
  | succ m ih =>
    intro k h
    obtain ⟨h1, h2⟩ := h k (by omega)
    rw [badF_s, badF_s, h1, flg_cut h2, ih (k + 1) (fun q hq => h q (by omega))]
theorem rest_cut (res : Int32) (r : Nat) : ∀ m k, (∀ q, q < k + m → S q = S' q ∧ R6 (V q) (V' q)) → restF S V res r k m = restF S' V' res r k m := by
  intro m
  induction m with
  | zero => exact fun _ _ => rfl
  | succ m ih =>
    intro k h
    obtain ⟨h1, h2⟩ := h k (by omega)
    rw [restF_s, restF_s, h1, h2 7 (by decide), h2 10 (by decide), ih (k + 1) (fun q hq => h q (by omega))]
theorem step_cut (w res : Int32) {r : Nat} (hr : r < n) (h : ∀ q, q < n → S q = S' q ∧ R6 (V q) (V' q)) : E2 (stepT S V w res n r) (stepT S' V' w res n r) := by
  obtain ⟨h1, h2⟩ := h r hr
  unfold stepT badR
  rw [h2 10 (by decide), flg_cut h2, rest_cut res r _ _ (fun q hq => h q (by omega)), h2 7 (by decide), bad_cut _ _ _ (fun q hq => h q (by omega))]
  exact ns_cut _ _ _ _ _ r h2
theorem look_cut (w res : Int32) {r : Nat} (hr : r < n) (h : ∀ q, q < n → S q = S' q ∧ R6 (V q) (V' q)) : R6 (lookR S V w res n r) (lookR S' V' w res n r) := by
  obtain ⟨h1, h2⟩ := h r hr
  obtain ⟨e1, e2⟩ := step_cut w res hr h
  unfold lookR
  rw [e1, h2 9 (by decide)]
  exact R6_ite e2 (bec_cut _ e2)
theorem ent_cut (w res : Int32) (h : ∀ q, q < n → S q = S' q ∧ R6 (V q) (V' q)) : ∀ m r, r + m ≤ n → entF S V w res n r m = entF S' V' w res n r m := by
  intro m
  induction m with
  | zero => exact fun _ _ => rfl
  | succ m ih =>
    intro r hr
    obtain ⟨h1, h2⟩ := h r (by omega)
    obtain ⟨e1, e2⟩ := step_cut w res (show r < n by omega) h
    unfold entF entR
    rw [ih (r + 1) (by omega), e1, h2 9 (by decide), e2 15 (by decide)]
theorem mvs_cut (h : ∀ q, q < n → R6 (V q) (V' q)) : ∀ q, q < n → (fun q => V q 9) q = (fun q => V' q 9) q ∧ R6 (rowsF (fun _ => mvR) V 0 n q) (rowsF (fun _ => mvR) V' 0 n q) := by
  intro q hq
  rw [rowsF_in hq, rowsF_in hq]
  exact ⟨h q hq 9 (by decide), mv_cut (h q hq)⟩
theorem tkV_cut (w res : Int32) (h : ∀ q, q < n → R6 (V q) (V' q)) {r : Nat} (hr : r < n) : R6 (tkV V w res n r) (tkV V' w res n r) := by
  rw [tkV_in hr, tkV_in hr]
  exact end_cut (look_cut w res hr (mvs_cut h))
theorem tkE_cut (w res : Int32) (h : ∀ q, q < n → R6 (V q) (V' q)) : tkE V w res n = tkE V' w res n :=
  ent_cut w res (mvs_cut h) n 0 (by omega)
