/-! saving and undoing, the class's and the model's -/
def w3 (M : MV) (f : Nat → Int32) : MV := (M.1, fun j => if j = 3 then f else M.2 j)
theorem w3_3 (M : MV) (f : Nat → Int32) : (w3 M f).2 3 = f := rfl
theorem w3_1 (M : MV) (f : Nat → Int32) : (w3 M f).2 1 = M.2 1 := rfl
theorem w3_s (M : MV) (f : Nat → Int32) : (w3 M f).1 = M.1 := rfl
theorem w3_w3 (M : MV) (f g : Nat → Int32) : w3 (w3 M f) g = w3 M g := by
  refine Prod.ext rfl (funext fun j => ?_)
  by_cases h : j = 3 <;> simp [w3, h]
theorem mA_w3 (M : MV) (i : Nat) (x : Int32) : mA M 3 i x = w3 M (upd (M.2 3) i x) := rfl
theorem w3_self (M : MV) : w3 M (M.2 3) = M := by
  refine Prod.ext rfl (funext fun j => ?_)
  by_cases h : j = 3 <;> simp [w3, h]
theorem ix228 (r : Nat) : (228 : Int32) * nI r = nI (228 * r) := pk_mul 228 r
def svF (f z : Nat → Int32) (s k : Nat) : Nat → Int32 := fun x => if 228 * s + k ≤ x ∧ x < 228 * s + 228 then z (x - 228 * s) else f x
def svS (f : Nat → Int32) (k : Nat) : Nat → Int32 := fun x => if k ≤ x + 228 ∧ x < 1140 then f (x + 228) else f x
variable {G : Nat → MC} {b : Nat}
theorem z_save54 (hb : b ≤ 134) {s : Nat} (hs : s < 6) : ∀ (m k fuel : Nat) (M : MV), M.1.1 2 = nI s → k + m = 228 → m < fuel → f_X4_save_54 fuel (hm G b M) b (nI k) = some (hm G b (mS (w3 M (svF (M.2 3) (M.2 1) s k)) 2 (nI (s + 1)))) := by
  intro m
  induction m with
  | zero =>
    intro k fuel M h2 hk hf
    obtain ⟨fuel, rfl⟩ : ∃ f, fuel = f + 1 := ⟨fuel - 1, by omega⟩
    show b_X4_save_54 _ _ _ _ = _
    unfold b_X4_save_54
    rw [if_pos (by rw [show (228 : Int32) = nI 228 from rfl]; exact nI_le (by omega) (by omega))]
    simp only [m_I2 hb, m_P2 hb, Option.bind_some, h2, nI_1]
    have e : svF (M.2 3) (M.2 1) s k = M.2 3 := by
      funext x
      exact if_neg (by omega)
    rw [e, w3_self]
  | succ m ih =>
    intro k fuel M h2 hk hf
    obtain ⟨fuel, rfl⟩ : ∃ f, fuel = f + 1 := ⟨fuel - 1, by omega⟩
    show b_X4_save_54 _ _ _ _ = _
    unfold b_X4_save_54
    rw [if_neg (by rw [show (228 : Int32) = nI 228 from rfl]; exact nI_ge (by omega) (by omega))]
    simp (disch := omega) only [m_R3 hb, m_I2 hb, m_R1 hb, m_a1 hb, m_s3 hb, Option.bind_some, h2, ix228, nI_add, bd_nI, mA_w3, nI_1]
    rw [ih (k + 1) fuel (w3 M (upd (M.2 3) (228 * s + k) (M.2 1 k))) h2 (by omega) (by omega)]
    rw [w3_3, w3_1, w3_w3]
    have e : svF (upd (M.2 3) (228 * s + k) (M.2 1 k)) (M.2 1) s (k + 1) = svF (M.2 3) (M.2 1) s k := by
      funext x
      unfold svF
      by_cases h : x = 228 * s + k
      · rw [if_neg (by omega), if_pos (by omega), h, upd_s]
        exact congrArg _ (by omega)
      · rw [upd_n h]
        by_cases h3 : 228 * s + (k + 1) ≤ x ∧ x < 228 * s + 228
        · rw [if_pos h3, if_pos (by omega)]
        · rw [if_neg h3, if_neg (by omega)]
    rw [e]
theorem z_save13 (hb : b ≤ 134) : ∀ (m k fuel : Nat) (M : MV), M.1.1 2 = nI 6 → k + m = 1368 → 228 ≤ k → m < fuel → f_X4_save_13 fuel (hm G b M) b (nI k) = b_X4_save_52 (hm G b (mS (w3 M (svS (M.2 3) k)) 2 (nI 5))) b := by
  intro m
  induction m with
  | zero =>
    intro k fuel M h2 hk hk2 hf
    obtain ⟨fuel, rfl⟩ : ∃ f, fuel = f + 1 := ⟨fuel - 1, by omega⟩
    show b_X4_save_13 _ _ _ _ = _
    unfold b_X4_save_13
    rw [if_pos (by rw [show (1368 : Int32) = nI 1368 from rfl]; exact nI_le (by omega) (by omega))]
    simp only [m_I2 hb, m_P2 hb, Option.bind_some, h2, show nI 6 - 1 = nI 5 from by decide]
    have e : svS (M.2 3) k = M.2 3 := by
      funext x
      exact if_neg (by omega)
    rw [e, w3_self]
  | succ m ih =>
    intro k fuel M h2 hk hk2 hf
    obtain ⟨fuel, rfl⟩ : ∃ f, fuel = f + 1 := ⟨fuel - 1, by omega⟩
    show b_X4_save_13 _ _ _ _ = _
    unfold b_X4_save_13
    rw [if_neg (by rw [show (1368 : Int32) = nI 1368 from rfl]; exact nI_ge (by omega) (by omega))]
    have e8 : nI k - 228 = nI (k - 228) := by
      rw [show (228 : Int32) = nI 228 from rfl]
      exact pk_sub (by omega)
    simp (disch := omega) only [m_R3 hb, m_a3 hb, m_s3 hb, Option.bind_some, e8, bd_nI, mA_w3, nI_1]
    rw [ih (k + 1) fuel (w3 M (upd (M.2 3) (k - 228) (M.2 3 k))) h2 (by omega) (by omega) (by omega)]
    rw [w3_3, w3_w3]
    have e : svS (upd (M.2 3) (k - 228) (M.2 3 k)) (k + 1) = svS (M.2 3) k := by
      funext x
      unfold svS
      by_cases h : x = k - 228
      · rw [if_neg (by omega), if_pos (by omega), h, upd_s]
        exact congrArg _ (by omega)
      · by_cases h3 : k + 1 ≤ x + 228 ∧ x < 1140
        · rw [if_pos h3, if_pos (by omega), upd_n (by omega)]
        · rw [if_neg h3, if_neg (by omega), upd_n h]
    rw [e]
/-- the rows saved, after a save -/
def svM (f z : Nat → Int32) (s : Nat) : Nat → Int32 := if s = 6 then svF (svS f 228) z 5 0 else svF f z s 0
theorem z_save (hb : b ≤ 134) {s : Nat} (hs : s ≤ 6) {M : MV} (h2 : M.1.1 2 = nI s) : f_X4_save (hm G b M) b = some (hm G b (mS (w3 M (svM (M.2 3) (M.2 1) s)) 2 (nI (min (s + 1) 6)))) := by
  simp only [f_X4_save, m_I2 hb, Option.bind_some, h2]
  unfold svM
  by_cases h : s = 6
  · subst h
    rw [if_pos (by decide), if_pos rfl, show (228 : Int32) = nI 228 from rfl, z_save13 hb 1140 228 FU M h2 (by omega) (by omega) (by rw [FU_eq]; omega)]
    unfold b_X4_save_52
    rw [show (0 : Int32) = nI 0 from rfl, z_save54 hb (s := 5) (by omega) 228 0 FU _ rfl (by omega) (by rw [FU_eq]; omega)]
    refine congrArg some (congrArg (hm G b) (Prod.ext (Prod.ext (funext fun j => ?_) rfl) (funext fun j => ?_)))
    · by_cases hj : j = 2 <;> simp [mS, w3, hj]
    · by_cases hj : j = 3 <;> simp [mS, w3, hj]
  · rw [if_neg (by rw [show (6 : Int32) = nI 6 from rfl, nI_eq (by omega) (by omega)]; exact h), if_neg h]
    unfold b_X4_save_52
    rw [show (0 : Int32) = nI 0 from rfl, z_save54 hb (s := s) (by omega) 228 0 FU _ h2 (by omega) (by rw [FU_eq]; omega), show min (s + 1) 6 = s + 1 by omega]
def unF (f z : Nat → Int32) (s k : Nat) : Nat → Int32 := fun x => if k ≤ x ∧ x < 228 then f (228 * s + x) else z x
theorem z_undo37 (hb : b ≤ 134) {s : Nat} (hs : s < 6) : ∀ (m k fuel : Nat) (M : MV), M.1.1 2 = nI s → k + m = 228 → m < fuel → f_X4_undo_37 fuel (hm G b M) b (nI k) = some (nI s, hm G b (wZ M (unF (M.2 3) (M.2 1) s k))) := by
  intro m
  induction m with
  | zero =>
    intro k fuel M h2 hk hf
    obtain ⟨fuel, rfl⟩ : ∃ f, fuel = f + 1 := ⟨fuel - 1, by omega⟩
    show b_X4_undo_37 _ _ _ _ = _
    unfold b_X4_undo_37
    rw [if_pos (by rw [show (228 : Int32) = nI 228 from rfl]; exact nI_le (by omega) (by omega))]
    simp only [m_I2 hb, Option.bind_some, h2]
    have e : unF (M.2 3) (M.2 1) s k = M.2 1 := by
      funext x
      exact if_neg (by omega)
    rw [e, wZ_self]
  | succ m ih =>
    intro k fuel M h2 hk hf
    obtain ⟨fuel, rfl⟩ : ∃ f, fuel = f + 1 := ⟨fuel - 1, by omega⟩
    show b_X4_undo_37 _ _ _ _ = _
    unfold b_X4_undo_37
    rw [if_neg (by rw [show (228 : Int32) = nI 228 from rfl]; exact nI_ge (by omega) (by omega))]
    simp (disch := omega) only [m_R3 hb, m_I2 hb, m_R1 hb, m_a3 hb, m_s1 hb, Option.bind_some, h2, ix228, nI_add, bd_nI, mA_wZ, nI_1]
    rw [ih (k + 1) fuel (wZ M (upd (M.2 1) k (M.2 3 (228 * s + k)))) h2 (by omega) (by omega)]
    rw [wZ_z, wZ_n _ _ (by decide), wZ_wZ]
    have e : unF (M.2 3) (upd (M.2 1) k (M.2 3 (228 * s + k))) s (k + 1) = unF (M.2 3) (M.2 1) s k := by
      funext x
      unfold unF
      by_cases h : x = k
      · subst h
        rw [if_neg (by omega), if_pos (by omega), upd_s]
      · rw [upd_n h]
        by_cases h3 : k + 1 ≤ x ∧ x < 228
        · rw [if_pos h3, if_pos (by omega)]
        · rw [if_neg h3, if_neg (by omega)]
    rw [e]
