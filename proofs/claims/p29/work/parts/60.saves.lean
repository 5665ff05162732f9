/-! the class's saving; what is saved says the same on both sides -/
def rotS (σ : Nat → Nat) : Nat → Nat := fun i => if i < 5 then σ (i + 1) else if i = 5 then σ 0 else σ i
def σOK (σ : Nat → Nat) : Prop := (∀ i, i < 6 → 2 ≤ σ i ∧ σ i < 8) ∧ ∀ i j, i < 6 → j < 6 → σ i = σ j → i = j
theorem rot_ok {σ : Nat → Nat} (h : σOK σ) : σOK (rotS σ) := by
  obtain ⟨h1, h2⟩ := h
  refine ⟨fun i hi => ?_, fun i j hi hj e => ?_⟩
  · unfold rotS
    by_cases h5 : i < 5
    · rw [if_pos h5]; exact h1 _ (by omega)
    · rw [if_neg h5, if_pos (by omega)]; exact h1 _ (by omega)
  · unfold rotS at e
    by_cases h5 : i < 5
    · rw [if_pos h5] at e
      by_cases h6 : j < 5
      · rw [if_pos h6] at e
        have := h2 _ _ (by omega) (by omega) e
        omega
      · rw [if_neg h6, if_pos (by omega)] at e
        have := h2 _ _ (by omega) (by omega) e
        omega
    · rw [if_neg h5, if_pos (by omega)] at e
      by_cases h6 : j < 5
      · rw [if_pos h6] at e
        have := h2 _ _ (by omega) (by omega) e
        omega
      · omega
variable (T : TS)
theorem t_drop9 (k fuel x : Nat) (hk : 1 ≤ k) (hk6 : k < 6) (h : ∀ i, i < 6 → T.1.2.1 i < 8) : f_X3_dropOldestSaved_9 (fuel + 1) (HT T) 0 x (nI k) = f_X3_dropOldestSaved_9 fuel (HT (uG T (fun i => if i = k - 1 then T.1.2.1 k else T.1.2.1 i))) 0 x (nI (k + 1)) := by
  show b_X3_dropOldestSaved_9 _ _ _ _ _ = _
  unfold b_X3_dropOldestSaved_9
  rw [if_neg (by rw [show (6 : Int32) = nI 6 from rfl]; exact nI_ge (by omega) (by omega))]
  have e : nI k - 1 = nI (k - 1) := pk_sub hk
  simp only [t_R2, Option.bind_some, t_s T k hk6, e, t_sR T (k - 1) (T.1.2.1 k) (by omega) (h k hk6), nI_1]
theorem t_dropA (h : ∀ i, i < 6 → T.1.2.1 i < 8) (w x : Nat) : f_X3_dropOldestSaved_9 (w + 1 + 1 + 1 + 1 + 1 + 1) (HT T) 0 x (nI 1) = f_X3_dropOldestSaved_9 (w + 1) (HT (uG T (fun i => if i < 5 then T.1.2.1 (i + 1) else T.1.2.1 i))) 0 x (nI 6) := by
  have s1 := h 1 (by decide)
  have s2 := h 2 (by decide)
  have s3 := h 3 (by decide)
  have s4 := h 4 (by decide)
  have s5 := h 5 (by decide)
  have g : ∀ (σ : Nat → Nat) (k : Nat), (∀ i, i < 6 → σ i < 8) → k < 6 → ∀ i, i < 6 → (if i = k - 1 then σ k else σ i) < 8 := by
    intro σ k hσ hk i hi
    split
    · exact hσ k hk
    · exact hσ i hi
  have g1 := g _ 1 h (by decide)
  have g2 := g _ 2 g1 (by decide)
  have g3 := g _ 3 g2 (by decide)
  have g4 := g _ 4 g3 (by decide)
  rw [t_drop9 T 1 _ _ (by decide) (by decide) h]
  rw [t_drop9 _ 2 _ _ (by decide) (by decide) g1]
  rw [t_drop9 _ 3 _ _ (by decide) (by decide) g2]
  rw [t_drop9 _ 4 _ _ (by decide) (by decide) g3]
  rw [t_drop9 _ 5 _ _ (by decide) (by decide) g4]
  refine congrArg (fun X => f_X3_dropOldestSaved_9 (w + 1) (HT X) 0 x (nI 6)) ?_
  unfold uG
  refine Prod.ext (Prod.ext rfl (Prod.ext (funext fun i => ?_) rfl)) rfl
  match i with
  | 0 => rfl
  | 1 => rfl
  | 2 => rfl
  | 3 => rfl
  | 4 => rfl
  | i + 5 =>
    simp
    intro h
    omega
theorem t_dropB (w x : Nat) (hx : x < 8) : f_X3_dropOldestSaved_9 (w + 1) (HT T) 0 (bs x) (nI 6) = some (HT (uS (uG T (fun i => if i = 5 then x else T.1.2.1 i)) 3 5)) := by
  show b_X3_dropOldestSaved_9 _ _ _ _ _ = _
  unfold b_X3_dropOldestSaved_9
  rw [if_pos (by decide)]
  simp only [t_R2, Option.bind_some]
  rw [show sR (HT T) 33 (5 : Int32) (bs x) = some (HT (uG T (fun i => if i = 5 then x else T.1.2.1 i))) from t_sR T 5 x (by decide) hx]
  simp only [Option.bind_some, t_P3]
theorem t_dropC : uG (uG T (fun i => if i < 5 then T.1.2.1 (i + 1) else T.1.2.1 i)) (fun i => if i = 5 then T.1.2.1 0 else (uG T (fun i => if i < 5 then T.1.2.1 (i + 1) else T.1.2.1 i)).1.2.1 i) = uG T (rotS T.1.2.1) := by
  refine Prod.ext (Prod.ext rfl (Prod.ext (funext fun i => ?_) rfl)) rfl
  show (if i = 5 then T.1.2.1 0 else (if i < 5 then T.1.2.1 (i + 1) else T.1.2.1 i)) = (if i < 5 then T.1.2.1 (i + 1) else if i = 5 then T.1.2.1 0 else T.1.2.1 i)
  by_cases h5 : i = 5
  · rw [if_pos h5, if_neg (by omega), if_pos h5]
  · rw [if_neg h5, if_neg h5]
theorem t_drop (h : ∀ i, i < 6 → T.1.2.1 i < 8) : f_X3_dropOldestSaved (HT T) 0 = some (HT (uS (uG T (rotS T.1.2.1)) 3 5)) := by
  have e0 : aR (HT T) 33 (0 : Int32) = some (bs (T.1.2.1 0)) := t_s T 0 (by decide)
  have e1 : f_X3_dropOldestSaved (HT T) 0 = f_X3_dropOldestSaved_9 FU (HT T) 0 (bs (T.1.2.1 0)) 1 := by
    unfold f_X3_dropOldestSaved
    rw [t_R2, Option.bind_some, e0, Option.bind_some]
  have e2 : FU = 2994 + 1 + 1 + 1 + 1 + 1 + 1 := FU_eq
  have e3 := t_dropA T h 2994 (bs (T.1.2.1 0))
  rw [e1, e2]
  refine e3.trans ?_
  rw [t_dropB _ _ _ (h 0 (by decide))]
  exact congrArg (fun X => some (HT (uS X 3 5))) (t_dropC T)
def rotM (σ : Nat → Nat) (s : Nat) : Nat → Nat := if s = 6 then rotS σ else σ
/-- the whole after the class saved -/
def svT (T : TS) (s : Nat) : TS := uS (uP (uG T (rotM T.1.2.1 s)) (rotM T.1.2.1 s (min s 5)) (cpP (T.1.2.2 0) (T.1.2.2 (rotM T.1.2.1 s (min s 5))))) 3 (nI (min (s + 1) 6))
theorem rotM_ok {σ : Nat → Nat} (h : σOK σ) (s : Nat) : σOK (rotM σ s) := by
  unfold rotM
  split
  · exact rot_ok h
  · exact h
theorem t_save13 {s : Nat} (hs : s < 6) (hS : T.1.1 3 = nI s) (hσ : σOK T.1.2.1) : b_X3_save_13 (HT T) 0 = some (HT (uS (uP T (T.1.2.1 s) (cpP (T.1.2.2 0) (T.1.2.2 (T.1.2.1 s)))) 3 (nI (s + 1)))) := by
  obtain ⟨h1, h2⟩ := hσ.1 s hs
  simp only [b_X3_save_13, t_R2, t_R0, t_I3, hS, Option.bind_some, t_s T s hs, t_aO T h2]
  have hc := t_copy T (i := 0) (by decide) h2 (by omega)
  rw [show bs 0 = 1 from rfl] at hc
  rw [hc]
  simp only [Option.bind_some, t_I3, t_P3]
  rw [show (uP T (T.1.2.1 s) (cpP (T.1.2.2 0) (T.1.2.2 (T.1.2.1 s)))).1.1 3 = nI s from hS, nI_1]
theorem t_save {s : Nat} (hs : s ≤ 6) (hS : T.1.1 3 = nI s) (hσ : σOK T.1.2.1) : f_X3_save (HT T) 0 = some (HT (svT T s)) := by
  simp only [f_X3_save, t_I3, hS, Option.bind_some, t_v3]
  unfold svT rotM
  by_cases h : s = 6
  · subst h
    rw [if_neg (by decide), t_drop T (fun i hi => (hσ.1 i hi).2), Option.bind_some, if_pos rfl]
    rw [t_save13 (uS (uG T (rotS T.1.2.1)) 3 5) (s := 5) (by decide) rfl (rot_ok hσ)]
    refine congrArg some (congrArg HT ?_)
    refine Prod.ext (Prod.ext (funext fun i => ?_) rfl) rfl
    by_cases h3 : i = 3 <;> simp [uS, uP, uG, h3]
  · rw [if_pos (by rw [show (6 : Int32) = nI 6 from rfl, nI_ltI (by omega) (by omega)]; omega), if_neg h, show min s 5 = s by omega, show min (s + 1) 6 = s + 1 by omega]
    exact t_save13 T (by omega) hS hσ
/-- accounts in bounds -/
def AZ (n : Nat) (P : PV) : Prop := (0 ≤ (P.1 1).toInt ∧ (P.1 1).toInt ≤ 20000) ∧ ∀ q, q < n → 0 ≤ (rowP P q 19).toInt ∧ (rowP P q 19).toInt ≤ (P.1 1).toInt
theorem cp_row (P Q : PV) {q : Nat} (hq : q < 8) : rowP (cpP P Q) q = rowP P q := by
  funext k
  match k with
  | 0 => simp [rowP, cpP, va_cpy, show q * 7 + 0 < 56 by omega, show q * 7 < 56 by omega]
  | 1 => simp [rowP, cpP, va_cpy, show q * 7 + 1 < 56 by omega]
  | 2 => simp [rowP, cpP, va_cpy, show q * 7 + 2 < 56 by omega]
  | 3 => simp [rowP, cpP, va_cpy, show q * 7 + 3 < 56 by omega]
  | 4 => simp [rowP, cpP, va_cpy, show q * 7 + 4 < 56 by omega]
  | 5 => simp [rowP, cpP, va_cpy, show q * 7 + 5 < 56 by omega]
  | 6 => simp [rowP, cpP, va_cpy, show q * 7 + 6 < 56 by omega]
  | 7 => simp [rowP, cpP, va_cpy, hq]
  | 9 => simp [rowP, cpP, va_cpy, hq]
  | 10 => simp [rowP, cpP, va_cpy, hq]
  | 11 => simp [rowP, cpP, va_cpy, hq]
  | 12 => simp [rowP, cpP, va_cpy, hq]
  | 13 => simp [rowP, cpP, va_cpy, hq]
  | 14 => simp [rowP, cpP, va_cpy, hq]
  | 15 => simp [rowP, cpP, va_cpy, hq]
  | 16 => simp [rowP, cpP, va_cpy, show q * 4 + 0 < 32 by omega, show q * 4 < 32 by omega]
  | 17 => simp [rowP, cpP, va_cpy, show q * 4 + 1 < 32 by omega]
  | 18 => simp [rowP, cpP, va_cpy, show q * 4 + 2 < 32 by omega]
  | 19 => simp [rowP, cpP, va_cpy, show q * 4 + 3 < 32 by omega]
  | 8 => rfl
  | j + 20 => rfl
