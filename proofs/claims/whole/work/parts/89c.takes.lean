/-! the model reads; the first error -/
theorem hd_snoc {f : Nat → Int32} {e : Nat → Int32} : ∀ (L : List (Nat → Int32)) (k : Nat), hdF f k L → (∀ i, i < 4 → f (4 * (k + L.length) + i) = e i) → hdF f k (L ++ [e]) := by
  intro L
  induction L with
  | nil => exact fun k _ h => ⟨h, trivial⟩
  | cons a L ih =>
    intro k ⟨h1, h2⟩ h
    refine ⟨h1, ih (k + 1) h2 (fun i hi => ?_)⟩
    have := h i hi
    rw [List.length_cons] at this
    rw [show 4 * (k + 1 + L.length) + i = 4 * (k + (L.length + 1)) + i by omega]
    exact this
/-- a rail of a text whose numbers are in their ranges -/
def okE (e : Nat → Int32) : Prop := ¬ (e 0 < roL 0 ∨ roM 0 < e 0) ∧ ¬ (e 1 < roL 1 ∨ roM 1 < e 1) ∧ ¬ (e 2 < roL 2 ∨ roM 2 < e 2)
theorem okE_of {R : RS} (h : RIv R) (he : enS R = true) : okE (roR R) := by
  obtain ⟨hp3, i2, i3, i4, i5, i6⟩ := h
  have hl : ∀ i, i < 3 → ¬ R.2.1 i < roL i := by
    intro i hi
    unfold enS at he
    by_cases h3 : R.1 = 3
    · exact i3 i hi (by omega)
    · rw [if_neg h3] at he
      by_cases h2 : R.1 = 2
      · rw [if_pos h2] at he
        by_cases hi2 : i = 2
        · rw [hi2]
          intro hh
          rw [decide_eq_true hh] at he
          exact absurd he (by decide)
        · exact i3 i hi (by omega)
      · rw [if_neg h2] at he
        exact absurd he (by decide)
  have hm : ∀ i, i < 3 → ¬ roM i < R.2.1 i := by
    intro i hi
    obtain ⟨a, ea, ha, hq⟩ := i2 i hi
    rw [ea]
    exact Int32.not_lt.mpr hq
  exact ⟨fun hh => hh.elim (hl 0 (by decide)) (hm 0 (by decide)), fun hh => hh.elim (hl 1 (by decide)) (hm 1 (by decide)), fun hh => hh.elim (hl 2 (by decide)) (hm 2 (by decide))⟩
theorem tk_59 {c : Int32} {R R' : RS} (h : tkS c R = some R') (hc : c = 59) : enS R = true := by
  subst hc
  unfold tkS at h
  rw [if_pos (by decide), if_neg (by decide), if_neg (by decide), if_pos rfl] at h
  cases he : enS R
  · rw [he, if_neg (by decide)] at h
    cases h
  · rfl
variable {G : Nat → MC}
theorem z_66 {M : MV} {c : Int32} (h : ¬ c = 59) : b_X4_takes_66 (hm G 133 M) 133 c = some (0, hm G 133 M) := by
  unfold b_X4_takes_66 b_X4_takes_67 b_X4_takes_118
  rw [if_pos rfl, if_neg h, i01]
theorem z_41 {M : MV} {c : Int32} (h0 : ¬ c = 60) (h : ¬ c = 59) : b_X4_takes_41 (hm G 133 M) 133 c = some (0, hm G 133 M) := by
  unfold b_X4_takes_41
  rw [if_neg h0, z_66 h]
theorem z_62 {M : MV} {p : Nat} (e10 : M.1.1 10 = nI p) (c : Int32) : b_X4_takes_62 (hm G 133 M) 133 c = some (1, hm G 133 (mS (mS M 10 (nI (p + 1))) 11 0)) := by
  unfold b_X4_takes_62 b_X4_takes_67
  rw [if_neg n10, m_I10 b133, obs, e10, nI_1, m_P10 b133, obs, m_P11 b133, obs, i11]
theorem MRd_next (M : MV) (x y : Int32) : MRd M (mS (mS M 10 x) 11 y) := MRd_trans (MRd_S (Or.inl rfl) x) (MRd_S (Or.inr (Or.inl rfl)) y)
theorem RR_next {M : MV} {k : Nat} {R : RS} {L : List (Nat → Int32)} (h : RR k R L M) (hp : R.1 < 3) (hc : ¬ R.2.1 R.1 < roL R.1) : RR (k + 1) (R.1 + 1, R.2) L (mS (mS M 10 (nI (R.1 + 1))) 11 0) := by
  obtain ⟨hi, e10, e13, e12, hd, hr, dg, e11, d3, d0, dk, hb⟩ := h
  obtain ⟨hp3, i2, i3, i4, i5, i6⟩ := hi
  have hdg : ¬ dg = 0 := by
    intro hh
    rw [d0 hp hh] at hc
    exact hc (roL3 hp)
  refine ⟨⟨hp, i2, fun i hi hi2 => ?_, fun hh => i4 hp, i5, fun i hi hi2 => ?_⟩, rfl, e13, e12, hd, hr, 0, rfl, fun _ => ⟨fun _ => i4 hp, fun _ => rfl⟩, fun hh _ => ?_, by omega, ?_⟩
  · have hi2 : i < R.1 + 1 := hi2
    by_cases hii : i = R.1
    · rw [hii]
      exact hc
    · exact i3 i hi (by omega)
  · have hi2 : R.1 + 1 < i := hi2
    exact i6 i hi (by omega)
  · have hh : R.1 + 1 < 3 := hh
    exact i6 (R.1 + 1) hh (by omega)
  · rw [if_neg hdg] at hb
    show 4 * L.length + (R.1 + 1) + (if (0 : Nat) = 0 then 0 else 1) ≤ k + 1
    rw [if_pos rfl]
    omega
/-- the model takes a character -/
theorem z_takes {M : MV} {k : Nat} {R : RS} {L : List (Nat → Int32)} (h : RR k R L M) (hk : k < 60) (c : Int32) : ∃ M', MRd M M' ∧ ((tkS c R = none ∧ f_X4_takes (hm G 133 M) 133 c = some (0, hm G 133 M')) ∨ ∃ R', tkS c R = some R' ∧ f_X4_takes (hm G 133 M) 133 c = some (1, hm G 133 M') ∧ RR (k + 1) R' (if c = 59 then L ++ [roR R] else L) M') := by
  have h' := h
  obtain ⟨hi, e10, e13, e12, hd, hr, dg, e11, d3, d0, dk, hb⟩ := h'
  have hp3 := hi.1
  have ho := z_over (G := G) h (by omega)
  by_cases hc : c < 48 ∨ 57 < c
  · have e0 : f_X4_takes (hm G 133 M) 133 c = if c = 47 then (if (2 : Int32) ≤ nI R.1 then b_X4_takes_41 (hm G 133 M) 133 c else (if R.1 < 3 ∧ ¬ R.2.1 R.1 < roL R.1 then b_X4_takes_62 (hm G 133 M) 133 c else b_X4_takes_41 (hm G 133 M) 133 c)) else b_X4_takes_41 (hm G 133 M) 133 c := by
      unfold f_X4_takes
      rw [z_within, obs, if_pos hc, if_pos rfl, m_I10 b133, obs, e10, m_v b133, ho, obs, ite01]
    have etk : tkS c R = (if c = 47 then (if R.1 < 2 ∧ ¬ R.2.1 R.1 < roL R.1 then some (R.1 + 1, R.2) else none)
    else if c = 60 then (if R.1 = 2 ∧ ¬ R.2.1 2 < roL 2 then some (3, R.2) else none)
    else if c = 59 then (if enS R = true then some (R0 R.2.1) else none) else none) := by
      unfold tkS
      rw [if_pos hc]
    rw [etk, e0]
    by_cases h47 : c = 47
    · have n60 : ¬ c = 60 := by rw [h47]; decide
      have n59 : ¬ c = 59 := by rw [h47]; decide
      rw [if_pos h47, if_pos h47, z_41 n60 n59, if_neg n59]
      by_cases h2 : R.1 < 2
      · rw [if_neg (show ¬ (2 : Int32) ≤ nI R.1 by rw [show (2 : Int32) = nI 2 from rfl]; exact nI_ge h2 (by decide))]
        by_cases hcm : R.2.1 R.1 < roL R.1
        · rw [if_neg (fun hh => hh.2 hcm), if_neg (fun hh => hh.2 hcm)]
          exact ⟨M, MRd_refl M, Or.inl ⟨rfl, rfl⟩⟩
        · rw [if_pos ⟨h2, hcm⟩, if_pos ⟨by omega, hcm⟩, z_62 e10]
          exact ⟨_, MRd_next _ _ _, Or.inr ⟨_, rfl, rfl, RR_next h (by omega) hcm⟩⟩
      · rw [if_pos (show (2 : Int32) ≤ nI R.1 by rw [show (2 : Int32) = nI 2 from rfl]; exact nI_le (by omega) (by omega)), if_neg (fun hh => h2 hh.1)]
        exact ⟨M, MRd_refl M, Or.inl ⟨rfl, rfl⟩⟩
    · rw [if_neg h47, if_neg h47]
      by_cases h60 : c = 60
      · have n59 : ¬ c = 59 := by rw [h60]; decide
        rw [if_pos h60, if_neg n59]
        unfold b_X4_takes_41
        rw [if_pos h60, m_I10 b133, obs, e10, z_66 n59, m_v b133, ho, obs, ite01, z_62 e10]
        by_cases h2 : R.1 = 2
        · rw [if_pos (show nI R.1 = (2 : Int32) by rw [h2]; rfl)]
          by_cases hcm : R.2.1 2 < roL 2
          · rw [if_neg (fun hh => hh.2 hcm), if_neg (fun hh => by rw [h2] at hh; exact hh.2 hcm)]
            exact ⟨M, MRd_refl M, Or.inl ⟨rfl, rfl⟩⟩
          · have hcm' : ¬ R.2.1 R.1 < roL R.1 := by rw [h2]; exact hcm
            have hn := RR_next h (by omega) hcm'
            rw [if_pos ⟨h2, hcm⟩, if_pos ⟨by omega, hcm'⟩]
            refine ⟨_, MRd_next _ _ _, Or.inr ⟨_, rfl, rfl, ?_⟩⟩
            rw [h2] at hn ⊢
            exact hn
        · rw [if_neg (show ¬ nI R.1 = (2 : Int32) from fun hh => h2 ((nI3 hp3 2 (by decide)).mp hh)), if_neg (fun hh => h2 hh.1)]
          exact ⟨M, MRd_refl M, Or.inl ⟨rfl, rfl⟩⟩
      · rw [if_neg h60]
        by_cases h59 : c = 59
        · rw [if_pos h59, if_pos h59]
          unfold b_X4_takes_41 b_X4_takes_66 b_X4_takes_67 b_X4_takes_118
          rw [if_neg h60, if_pos rfl, if_pos h59, m_v b133, z_railOver h (by omega), obs, ite01]
          by_cases hen : enS R = true
          · have hdg : ¬ dg = 0 ∧ 2 ≤ R.1 := by
              unfold enS at hen
              by_cases h3 : R.1 = 3
              · rw [if_pos h3] at hen
                refine ⟨fun hh => ?_, by omega⟩
                rw [decide_eq_true ((d3 h3).mp hh)] at hen
                exact absurd hen (by decide)
              · rw [if_neg h3] at hen
                by_cases h2 : R.1 = 2
                · rw [if_pos h2] at hen
                  refine ⟨fun hh => ?_, by omega⟩
                  have := d0 (by omega) hh
                  rw [h2] at this
                  rw [this] at hen
                  exact absurd hen (by decide)
                · rw [if_neg h2] at hen
                  exact absurd hen (by decide)
            rw [if_neg hdg.1] at hb
            have hlen : (L ++ [roR R]).length = L.length + 1 := by simp
            have hz : hdF (M.2 14) 0 (L ++ [roR R]) := hd_snoc L 0 hd (fun i hi => by rw [Nat.zero_add]; exact hr i hi)
            rw [if_pos hen, if_pos hen, m_I13 b133, obs, e13, nI_1, m_P13 b133, obs, m_v b133, z_begin (M := mS M 13 (nI (L.length + 1))) (c := L.length + 1) rfl (by omega), obs, i11]
            refine ⟨_, MRd_trans (MRd_S (Or.inr (Or.inr (Or.inr rfl))) _) (bg_rd _ _), Or.inr ⟨_, rfl, rfl, ?_⟩⟩
            have t := RR_begin (M := mS M 13 (nI (L.length + 1))) (k := k + 1) (L := L ++ [roR R]) R.2.1 (by rw [hlen]; rfl) hz (by rw [hlen]; omega)
            rw [hlen] at t
            exact t
          · rw [if_neg hen, if_neg hen, i01]
            exact ⟨M, MRd_refl M, Or.inl ⟨rfl, rfl⟩⟩
        · rw [if_neg h59, if_neg h59, z_41 h60 h59]
          exact ⟨M, MRd_refl M, Or.inl ⟨rfl, rfl⟩⟩
  · have hc1 : ¬ c < 48 := fun hh => hc (Or.inl hh)
    have hc2 : ¬ 57 < c := fun hh => hc (Or.inr hh)
    obtain ⟨j, hj, hcj⟩ : ∃ j : Nat, j ≤ 9 ∧ c - 48 = nI j := by
      obtain ⟨a, ha, rfl⟩ := nI_of (x := c) (by
        intro hh
        apply hc1
        rw [Int32.lt_iff_toInt_lt] at hh ⊢
        have e48 : (48 : Int32).toInt = 48 := rfl
        have e0 : (0 : Int32).toInt = 0 := rfl
        omega)
      rw [show (48 : Int32) = nI 48 from rfl, nI_ltI ha (by decide)] at hc1
      rw [show (57 : Int32) = nI 57 from rfl, nI_ltI (by decide) ha] at hc2
      exact ⟨a - 48, by omega, by rw [show (48 : Int32) = nI 48 from rfl, pk_sub (by omega)]⟩
    have n59 : ¬ c = 59 := fun hh => hc2 (by rw [hh]; decide)
    have etk : tkS c R = dgS (nI j) R := by
      unfold tkS
      rw [if_neg hc, hcj]
    have e0 : f_X4_takes (hm G 133 M) 133 c = (f_X4_takesDigit (hm G 133 M) 133 (nI j)).bind (fun p => some (p.1 &&& 1, p.2)) := by
      unfold f_X4_takes
      rw [z_within, obs, if_neg hc, if_neg n10, m_v b133, hcj]
    rw [etk, e0, if_neg n59]
    have t : ∃ M', MRd M M' ∧ ((dgS (nI j) R = none ∧ f_X4_takesDigit (hm G 133 M) 133 (nI j) = some (0, hm G 133 M')) ∨ ∃ R', dgS (nI j) R = some R' ∧ f_X4_takesDigit (hm G 133 M) 133 (nI j) = some (1, hm G 133 M') ∧ RR (k + 1) R' L M') := by
      by_cases h3 : R.1 = 3
      · exact z_need_digit h hk h3 hj
      · exact z_num_digit h hk (by omega) hj
    obtain ⟨M', m1, m2⟩ := t
    refine ⟨M', m1, ?_⟩
    rcases m2 with ⟨a1, a2⟩ | ⟨R', a1, a2, a3⟩
    · exact Or.inl ⟨a1, by rw [a2, obs, i01]⟩
    · exact Or.inr ⟨R', a1, by rw [a2, obs, i11], a3⟩
theorem z_readLoop {B : Nat → Int32} {n : Nat} (hn : n ≤ 60) : ∀ (m k fuel : Nat) (R : RS) (L : List (Nat → Int32)) (M : MV), RR k R L M → (∀ e, e ∈ L → okE e) → M.1.1 4 = nI n → (∀ i, i < n → M.2 5 i = B i) → k + m = n → m < fuel → ∃ M', f_X4_readText_11 fuel (hm G 133 M) 133 (nI k) = some (nI (rdL B m k R L).1, hm G 133 M') ∧ MRd M M' ∧ ((rdL B m k R L).1 = n → RR n (rdL B m k R L).2.1 (rdL B m k R L).2.2 M' ∧ ∀ e, e ∈ (rdL B m k R L).2.2 → okE e) := by
  intro m
  induction m with
  | zero =>
    intro k fuel R L M h hok h4 hB hk hf
    obtain ⟨fuel, rfl⟩ : ∃ f, fuel = f + 1 := ⟨fuel - 1, by omega⟩
    obtain rfl : k = n := by omega
    refine ⟨M, ?_, MRd_refl M, fun _ => ⟨h, hok⟩⟩
    show b_X4_readText_11 _ _ _ _ = _
    unfold b_X4_readText_11 b_X4_readText_38
    rw [m_I4 b133, obs, h4, if_pos (nI_le (by omega) (by omega))]
    rfl
  | succ m ih =>
    intro k fuel R L M h hok h4 hB hk hf
    obtain ⟨fuel, rfl⟩ : ∃ f, fuel = f + 1 := ⟨fuel - 1, by omega⟩
    have e : f_X4_readText_11 (fuel + 1) (hm G 133 M) 133 (nI k) = (f_X4_takes (hm G 133 M) 133 (B k)).bind (fun p4 => if p4.1 = 0 then some (nI k, p4.2) else f_X4_readText_11 fuel p4.2 133 (nI (k + 1))) := by
      show b_X4_readText_11 _ _ _ _ = _
      unfold b_X4_readText_11 b_X4_readText_38
      rw [m_I4 b133, obs, h4, if_neg (nI_ge (by omega) (by omega)), m_R5 b133, obs, m_a5 b133, bd_nI (by omega) (by decide), obs, m_v b133, hB k (by omega), nI_1]
    rw [e]
    obtain ⟨M1, m1, m2⟩ := z_takes (G := G) h (by omega) (B k)
    unfold rdL
    rcases m2 with ⟨a1, a2⟩ | ⟨R', a1, a2, a3⟩
    · rw [a1, a2, obs]
      refine ⟨M1, if_pos rfl, m1, fun hh => ?_⟩
      have hh : k = n := hh
      omega
    · rw [a1, a2, obs]
      obtain ⟨M', r1, r2, r3⟩ := ih (k + 1) fuel R' (if B k = 59 then L ++ [roR R] else L) M1 a3 (fun e he => by
        by_cases h59 : B k = 59
        · rw [if_pos h59, List.mem_append, List.mem_singleton] at he
          rcases he with he | he
          · exact hok e he
          · rw [he]
            exact okE_of h.1 (tk_59 a1 h59)
        · rw [if_neg h59] at he
          exact hok e he) (by rw [m1.1 4 (by decide) (by decide) (by decide) (by decide)]; exact h4) (fun i hi => by rw [m1.2.2 5 (by decide)]; exact hB i hi) (by omega) (by omega)
      refine ⟨M', ?_, MRd_trans m1 r2, r3⟩
      show (if (1 : Int32) = 0 then _ else f_X4_readText_11 fuel (hm G 133 M1) 133 (nI (k + 1))) = _
      rw [if_neg n10, r1]
      rfl
theorem z_read {B : Nat → Int32} {n : Nat} (hn : n ≤ 60) (g : Nat → Int32) {M : MV} (h4 : M.1.1 4 = nI n) (hB : ∀ i, i < n → M.2 5 i = B i) : ∃ M', f_X4_readText (hm G 133 M) 133 = some (nI (rdL B n 0 (R0 g) []).1, hm G 133 M') ∧ MRd M M' ∧ ((rdL B n 0 (R0 g) []).1 = n → RR n (rdL B n 0 (R0 g) []).2.1 (rdL B n 0 (R0 g) []).2.2 M' ∧ ∀ e, e ∈ (rdL B n 0 (R0 g) []).2.2 → okE e) := by
  have hr := RR_begin (M := mS M 13 0) (k := 0) (L := []) g rfl trivial (Nat.zero_le _)
  obtain ⟨M', r1, r2, r3⟩ := z_readLoop (G := G) (B := B) hn n 0 FU (R0 g) [] (bgM (mS M 13 0) 0) hr (fun e he => absurd he (by simp)) h4 hB (by omega) (by rw [FU_eq]; omega)
  refine ⟨M', ?_, MRd_trans (MRd_trans (MRd_S (Or.inr (Or.inr (Or.inr rfl))) 0) (bg_rd _ _)) r2, r3⟩
  unfold f_X4_readText
  rw [m_P13 b133, obs, m_v b133, z_begin (M := mS M 13 0) (c := 0) rfl (by decide), obs]
  exact r1
variable {T : TS}
/-- what holds when only the readers moved -/
theorem INV_read {n s : Nat} (h : INV T n s) (R : RS) (P : PV) (o : Nat → Int64) {c : Int32} {M' : MV} (hq : MRd (mS T.2.2.1 0 c) M') : INV (uM (uO (uP (uR T R) 1 P) o) M') n s := by
  obtain ⟨hs, hS, hM, hσ, hz, ha, hv, hbf⟩ := h
  obtain ⟨q1, q2, q3⟩ := hq
  refine ⟨hs, hS, (q1 2 (by decide) (by decide) (by decide) (by decide)).trans hM, hσ, ?_, ha, ?_, ?_⟩
  · rw [show (uM (uO (uP (uR T R) 1 P) o) M').2.2.1.2 1 = M'.2 1 from rfl, q3 1 (by decide)]
    exact hz
  · intro i hi
    obtain ⟨m, t1, t2⟩ := hv i hi
    have hr := hσ.1 i (by omega)
    have e : (uM (uO (uP (uR T R) 1 P) o) M').1.2.2 ((uM (uO (uP (uR T R) 1 P) o) M').1.2.1 i) = T.1.2.2 (T.1.2.1 i) := by
      show (if T.1.2.1 i = 1 then P else T.1.2.2 (T.1.2.1 i)) = T.1.2.2 (T.1.2.1 i)
      rw [if_neg (by omega)]
    rw [e]
    refine ⟨m, ?_, t2⟩
    rw [show (uM (uO (uP (uR T R) 1 P) o) M').2.2.1.2 3 = M'.2 3 from rfl, q3 3 (by decide)]
    exact t1
  · obtain ⟨k, b1, b2, b3, b4⟩ := hbf
    exact ⟨k, b1, b2, (q1 4 (by decide) (by decide) (by decide) (by decide)).trans b3, fun i hi => by rw [show (uM (uO (uP (uR T R) 1 P) o) M').2.2.1.2 5 = M'.2 5 from rfl, q3 5 (by decide)]; exact b4 i hi⟩
theorem op_firstError {n s : Nat} (h : INV T n s) : OKv T (f_X3_firstError (HT T) 0) (fun h => vcall h 4 133 (f_X4_firstError h 133)) := by
  obtain ⟨l, b1, b2, b3, b4⟩ := h.2.2.2.2.2.2.2
  have hb : 133 ≤ 134 := by decide
  obtain ⟨M', r1, r2, r3⟩ := z_read (G := gT (uR T (rdL T.2.1.1 l 0 (R0 T.2.1.2) []).2.1)) (B := T.2.1.1) b1 T.2.1.2 (M := mS T.2.2.1 0 0) b3 (fun i hi => (b4 i hi).symm)
  have hI := INV_read h (rdL T.2.1.1 l 0 (R0 T.2.1.2) []).2.1 (T.1.2.2 1) T.2.2.2 r2
  have eT : uO (uP (uR T (rdL T.2.1.1 l 0 (R0 T.2.1.2) []).2.1) 1 (T.1.2.2 1)) T.2.2.2 = uR T (rdL T.2.1.1 l 0 (R0 T.2.1.2) []).2.1 := uP_self (uR T (rdL T.2.1.1 l 0 (R0 T.2.1.2) []).2.1) 1
  rw [eT] at hI
  refine ⟨uR T (rdL T.2.1.1 l 0 (R0 T.2.1.2) []).2.1, nI (rdL T.2.1.1 l 0 (R0 T.2.1.2) []).1, ?_, uM (uR T (rdL T.2.1.1 l 0 (R0 T.2.1.2) []).2.1) M', ?_, n, s, hI⟩
  · unfold f_X3_firstError
    rw [t_v3, c_read b1 b2, obs]
  · show vcall (HT _) 4 133 (f_X4_firstError (HT _) 133) = _
    rw [t_vm, ← hm_T, HT_m (uR T (rdL T.2.1.1 l 0 (R0 T.2.1.2) []).2.1)]
    show f_X4_firstError (hm _ 133 T.2.2.1) 133 = _
    unfold f_X4_firstError
    rw [m_P0 hb, obs, m_v hb, r1, obs]
