/-! the reader: the model's side -/
def RIv (R : RS) : Prop := R.1 ≤ 3 ∧ (∀ i, i < 3 → ∃ a, R.2.1 i = nI a ∧ a ≤ 5000 ∧ nI a ≤ roM i) ∧ (∀ i, i < 3 → i < R.1 → ¬ R.2.1 i < roL i) ∧ (R.1 < 3 → R.2.2.2 = -1) ∧ (R.2.2.2 = -1 ∨ ∃ j, j < 7 ∧ R.2.2.2 = nI j) ∧ ∀ i, i < 3 → R.1 < i → R.2.1 i = 0
def RR (k : Nat) (R : RS) (L : List (Nat → Int32)) (M : MV) : Prop := RIv R ∧ M.1.1 10 = nI R.1 ∧ M.1.1 13 = nI L.length ∧ M.1.1 12 = R.2.2.2 ∧ hdF (M.2 14) 0 L ∧ (∀ i, i < 4 → M.2 14 (4 * L.length + i) = roR R i) ∧ ∃ dg, M.1.1 11 = nI dg ∧ (R.1 = 3 → (dg = 0 ↔ R.2.2.2 = -1)) ∧ (R.1 < 3 → dg = 0 → R.2.1 R.1 = 0) ∧ dg ≤ k ∧ 4 * L.length + R.1 + (if dg = 0 then 0 else 1) ≤ k
/-- what reading changes in the model -/
def MRd (M M' : MV) : Prop := (∀ k, k ≠ 10 → k ≠ 11 → k ≠ 12 → k ≠ 13 → M'.1.1 k = M.1.1 k) ∧ M'.1.2 = M.1.2 ∧ ∀ k, k ≠ 14 → M'.2 k = M.2 k
theorem MRd_refl (M : MV) : MRd M M := ⟨fun _ _ _ _ _ => rfl, rfl, fun _ _ => rfl⟩
theorem MRd_trans {A B C : MV} (h1 : MRd A B) (h2 : MRd B C) : MRd A C := ⟨fun k a c d e => (h2.1 k a c d e).trans (h1.1 k a c d e), h2.2.1.trans h1.2.1, fun k a => (h2.2.2 k a).trans (h1.2.2 k a)⟩
theorem MRd_S {M : MV} {j : Nat} (hj : j = 10 ∨ j = 11 ∨ j = 12 ∨ j = 13) (x : Int32) : MRd M (mS M j x) := ⟨fun k a c d e => if_neg (by omega), rfl, fun _ _ => rfl⟩
theorem MRd_A (M : MV) (i : Nat) (x : Int32) : MRd M (mA M 14 i x) := ⟨fun _ _ _ _ _ => rfl, rfl, fun k h => if_neg h⟩
def w14 (M : MV) (f : Nat → Int32) : MV := (M.1, fun j => if j = 14 then f else M.2 j)
theorem MRd_14 (M : MV) (f : Nat → Int32) : MRd M (w14 M f) := ⟨fun _ _ _ _ _ => rfl, rfl, fun k h => if_neg h⟩
theorem mA_w14 (M : MV) (i : Nat) (f : Nat → Int32) (x : Int32) : mA (w14 M f) 14 i x = w14 M (upd f i x) := by
  unfold mA w14
  congr 1
  funext j
  by_cases h : j = 14
  · simp [h]
  · simp [h]
theorem w14_self (M : MV) : w14 M (M.2 14) = M := by
  unfold w14
  have : (fun j => if j = 14 then M.2 14 else M.2 j) = M.2 := by
    funext j
    by_cases h : j = 14
    · simp [h]
    · simp [h]
  rw [this]
def zfF (g : Nat → Int32) (c k : Nat) : Nat → Int32 := fun i => if 4 * c ≤ i ∧ i < 4 * c + k then 0 else g i
theorem zf_step (g : Nat → Int32) (c k : Nat) : upd (zfF g c k) (4 * c + k) 0 = zfF g c (k + 1) := by
  funext i
  unfold upd zfF
  by_cases h : i = 4 * c + k
  · rw [if_pos h, if_pos (by omega)]
  · rw [if_neg h]
    by_cases h2 : 4 * c ≤ i ∧ i < 4 * c + k
    · rw [if_pos h2, if_pos (by omega)]
    · rw [if_neg h2, if_neg (by omega)]
theorem zf_0 (g : Nat → Int32) (c : Nat) : zfF g c 0 = g := by
  funext i
  unfold zfF
  rw [if_neg (by omega)]
variable {G : Nat → MC}
theorem b133 : 133 ≤ 134 := by decide
theorem z_beginLoop {M : MV} {c : Nat} (h13 : M.1.1 13 = nI c) (hc : c ≤ 15) : ∀ (m k fuel : Nat), k + m = 4 → m < fuel → f_X4_beginRail_17 fuel (hm G 133 (w14 M (zfF (M.2 14) c k))) 133 (nI k) = some (hm G 133 (w14 M (zfF (M.2 14) c 4))) := by
  intro m
  induction m with
  | zero =>
    intro k fuel hk hf
    obtain ⟨fuel, rfl⟩ : ∃ f, fuel = f + 1 := ⟨fuel - 1, by omega⟩
    obtain rfl : k = 4 := by omega
    show b_X4_beginRail_17 _ _ _ _ = _
    unfold b_X4_beginRail_17
    rw [if_pos (by rw [show (4 : Int32) = nI 4 from rfl]; exact nI_le (by omega) (by omega))]
  | succ m ih =>
    intro k fuel hk hf
    obtain ⟨fuel, rfl⟩ : ∃ f, fuel = f + 1 := ⟨fuel - 1, by omega⟩
    show b_X4_beginRail_17 _ _ _ _ = _
    unfold b_X4_beginRail_17
    rw [if_neg (by rw [show (4 : Int32) = nI 4 from rfl]; exact nI_ge (by omega) (by omega)), m_R14 b133, obs, m_I13 b133, obs, show (w14 M (zfF (M.2 14) c k)).1.1 13 = nI c from h13, ix4l, nI_add, m_s14 b133, bd_nI (by omega) (by decide), obs, mA_w14, zf_step, nI_1]
    exact ih (k + 1) fuel (by omega) (by omega)
def bgM (M : MV) (c : Nat) : MV := w14 (mS (mS (mS M 10 0) 11 0) 12 (-1)) (zfF (M.2 14) c 4)
theorem z_begin {M : MV} {c : Nat} (h13 : M.1.1 13 = nI c) (hc : c ≤ 15) : f_X4_beginRail (hm G 133 M) 133 = some (hm G 133 (bgM M c)) := by
  have t := z_beginLoop (G := G) (M := mS (mS (mS M 10 0) 11 0) 12 (-1)) h13 hc 4 0 FU (by omega) (by rw [FU_eq]; omega)
  rw [zf_0, w14_self] at t
  unfold f_X4_beginRail
  rw [m_P10 b133, obs, m_P11 b133, obs, m_P12 b133, obs]
  exact t
theorem bg_rd (M : MV) (c : Nat) : MRd M (bgM M c) := MRd_trans (MRd_trans (MRd_trans (MRd_S (Or.inl rfl) 0) (MRd_S (Or.inr (Or.inl rfl)) 0)) (MRd_S (Or.inr (Or.inr (Or.inl rfl))) (-1))) (MRd_14 _ _)
theorem RIv_0 (g : Nat → Int32) : RIv (R0 g) := by
  refine ⟨Nat.zero_le 3, fun i hi => ⟨0, if_pos hi, by omega, ?_⟩, fun i _ h => absurd h (by show ¬ i < 0; omega), fun _ => rfl, Or.inl rfl, fun i hi _ => if_pos hi⟩
  match i, hi with
  | 0, _ => decide
  | 1, _ => decide
  | 2, _ => decide
/-- behind beginRail -/
theorem RR_begin {M : MV} {k : Nat} {L : List (Nat → Int32)} (g : Nat → Int32) (h13 : M.1.1 13 = nI L.length) (hd : hdF (M.2 14) 0 L) (hk : 4 * L.length ≤ k) : RR k (R0 g) L (bgM M L.length) := by
  refine ⟨RIv_0 g, rfl, h13, rfl, ?_, fun i hi => ?_, 0, rfl, fun h => absurd (show (0 : Nat) = 3 from h) (by decide), fun _ _ => rfl, by omega, hk⟩
  · refine hd_congr L 0 (fun y y1 y2 => ?_) hd
    show zfF (M.2 14) L.length 4 y = _
    unfold zfF
    rw [if_neg (by omega)]
  · show zfF (M.2 14) L.length 4 (4 * L.length + i) = roR (R0 g) i
    unfold zfF roR
    rw [if_pos (by omega)]
    by_cases h : i < 3
    · rw [if_pos h]
      exact (if_pos h).symm
    · rw [if_neg h]
      rfl
theorem roL3 {p : Nat} (hp : p < 3) : (0 : Int32) < roL p := by
  match p, hp with
  | 0, _ => decide
  | 1, _ => decide
  | 2, _ => decide
theorem z_least {M : MV} {p : Nat} (h : M.1.1 10 = nI p) (hp : p < 3) : f_X4_least (hm G 133 M) 133 = some (roL p) := by
  unfold f_X4_least b_X4_least_13
  rw [m_I10 b133, obs, h]
  match p, hp with
  | 0, _ => rfl
  | 1, _ => rfl
  | 2, _ => rfl
theorem roR_lt {R : RS} {i : Nat} (hi : i < 3) : roR R i = R.2.1 i := if_pos hi
theorem z_over {M : MV} {k : Nat} {R : RS} {L : List (Nat → Int32)} (h : RR k R L M) (hk : k ≤ 60) : f_X4_isNumberOver (hm G 133 M) 133 = some (if R.1 < 3 ∧ ¬ R.2.1 R.1 < roL R.1 then 1 else 0) := by
  obtain ⟨hi, e10, e13, e12, hd, hr, dg, e11, d3, d0, dk, hb⟩ := h
  unfold f_X4_isNumberOver b_X4_isNumberOver_42 b_X4_isNumberOver_43
  rw [m_I10 b133, obs, e10]
  have hp3 := hi.1
  by_cases h3 : R.1 = 3
  · rw [if_pos (by rw [h3]; decide), if_neg (by omega), i01]
  · have hp : R.1 < 3 := by omega
    rw [if_neg (by rw [show (3 : Int32) = nI 3 from rfl]; exact nI_ge hp (by decide)), m_I11 b133, obs, e11]
    by_cases hdg : dg = 0
    · rw [if_pos (by rw [hdg]; decide), if_neg (fun hh => hh.2 (by rw [d0 hp hdg]; exact roL3 hp)), i01]
    · rw [if_neg (nI_nle (by omega) (by omega)), m_R14 b133, obs, m_I13 b133, obs, e13, obs, m_a14 b133, ix4l, nI_add, bd_nI (by omega) (by decide), obs, hr _ (by omega), roR_lt hp, m_v b133, z_least e10 hp, obs]
      by_cases hc : R.2.1 R.1 < roL R.1
      · rw [if_pos hc, if_neg (fun hh => hh.2 hc), i01]
      · rw [if_neg hc, if_pos ⟨hp, hc⟩, i11]
theorem z_railOver {M : MV} {k : Nat} {R : RS} {L : List (Nat → Int32)} (h : RR k R L M) (hk : k ≤ 60) : f_X4_isRailOver (hm G 133 M) 133 = some (if enS R = true then 1 else 0) := by
  have ho := z_over (G := G) h hk
  obtain ⟨hi, e10, e13, e12, hd, hr, dg, e11, d3, d0, dk, hb⟩ := h
  have hp3 := hi.1
  unfold f_X4_isRailOver b_X4_isRailOver_42 b_X4_isRailOver_43 enS
  rw [m_I10 b133, obs, e10]
  by_cases h3 : R.1 = 3
  · rw [if_pos (show nI R.1 = (3 : Int32) by rw [h3]; rfl), if_pos h3, m_I11 b133, obs, e11]
    by_cases hdg : dg = 0
    · rw [if_pos (by rw [hdg]; decide), i01, decide_eq_true ((d3 h3).mp hdg)]
      rfl
    · rw [if_neg (nI_nle (by omega) (by omega)), i11, decide_eq_false (fun hh => hdg ((d3 h3).mpr hh))]
      rfl
  · rw [if_neg (show ¬ nI R.1 = (3 : Int32) from fun hh => h3 ((nI3 hp3 3 (by decide)).mp hh)), if_neg h3, obs]
    by_cases h2 : R.1 = 2
    · rw [if_pos (show nI R.1 = (2 : Int32) by rw [h2]; rfl), if_pos h2, m_v b133, ho, obs, ite01]
      rw [h2]
      by_cases hc : R.2.1 2 < roL 2
      · rw [if_neg (fun hh => hh.2 hc), i01, decide_eq_true hc]
        rfl
      · rw [if_pos ⟨by decide, hc⟩, i11, decide_eq_false hc]
        rfl
    · rw [if_neg (show ¬ nI R.1 = (2 : Int32) from fun hh => h2 ((nI3 hp3 2 (by decide)).mp hh)), if_neg h2, i01]
      rfl
theorem roM_le {p a : Nat} (hp : p < 3) (ha : a < 2 ^ 31) (h : nI a ≤ roM p) : a ≤ 5000 := by
  match p, hp with
  | 0, _ =>
    rw [show roM 0 = nI 5000 from rfl, nI_leI ha (by decide)] at h
    exact h
  | 1, _ =>
    rw [show roM 1 = nI 1000 from rfl, nI_leI ha (by decide)] at h
    omega
  | 2, _ =>
    rw [show roM 2 = nI 1000 from rfl, nI_leI ha (by decide)] at h
    omega
/-- a digit of a number -/
theorem z_num_digit {M : MV} {k : Nat} {R : RS} {L : List (Nat → Int32)} (h : RR k R L M) (hk : k < 60) (hp : R.1 < 3) {j : Nat} (hj : j ≤ 9) : ∃ M', MRd M M' ∧ ((dgS (nI j) R = none ∧ f_X4_takesDigit (hm G 133 M) 133 (nI j) = some (0, hm G 133 M')) ∨ ∃ R', dgS (nI j) R = some R' ∧ f_X4_takesDigit (hm G 133 M) 133 (nI j) = some (1, hm G 133 M') ∧ RR (k + 1) R' L M') := by
  obtain ⟨hi, e10, e13, e12, hd, hr, dg, e11, d3, d0, dk, hb⟩ := h
  obtain ⟨hp3, i2, i3, i4, i5, i6⟩ := hi
  obtain ⟨a, ea, ha, -⟩ := i2 R.1 hp
  have ev : R.2.1 R.1 * 10 + nI j = nI (a * 10 + j) := by rw [ea, show (10 : Int32) = nI 10 from rfl, pk_mul, nI_add]
  have ev2 : (10 : Int32) * R.2.1 R.1 + nI j = nI (a * 10 + j) := by rw [ea, show (10 : Int32) = nI 10 from rfl, pk_mul, nI_add, Nat.mul_comm]
  have hpl : 4 * L.length + R.1 < 64 := by omega
  have hrp : M.2 14 (4 * L.length + R.1) = R.2.1 R.1 := by rw [hr _ (by omega), roR_lt hp]
  have e142 : b_X4_takesDigit_141 (hm G 133 M) 133 (nI (4 * L.length + R.1)) (nI (a * 10 + j)) = some (0, hm G 133 (mS (mA M 14 (4 * L.length + R.1) (R.2.1 R.1)) 11 (nI dg + 0))) := by
    unfold b_X4_takesDigit_141 b_X4_takesDigit_142 b_X4_takesDigit_165 b_X4_takesDigit_181
    rw [m_R14 b133, obs, if_pos rfl, obs, m_a14 b133, bd_nI hpl (by decide), obs, hrp, m_s14 b133, bd_nI hpl (by decide), obs, m_I11 b133, obs, if_pos rfl, show (mA M 14 (4 * L.length + R.1) (R.2.1 R.1)).1.1 11 = nI dg from e11, m_P11 b133, obs, i01]
  have e142' : b_X4_takesDigit_142 (hm G 133 M) 133 (nI (4 * L.length + R.1)) (nI (a * 10 + j)) 1 = some (1, hm G 133 (mS (mA M 14 (4 * L.length + R.1) (nI (a * 10 + j))) 11 (nI (dg + 1)))) := by
    unfold b_X4_takesDigit_142 b_X4_takesDigit_165 b_X4_takesDigit_181
    rw [m_R14 b133, obs, if_neg n10, m_s14 b133, bd_nI hpl (by decide), obs, m_I11 b133, obs, if_neg n10, show (mA M 14 (4 * L.length + R.1) (nI (a * 10 + j))).1.1 11 = nI dg from e11, nI_1, m_P11 b133, obs, i11]
  have e112 : b_X4_takesDigit_112 (hm G 133 M) 133 (nI j) (nI (4 * L.length + R.1)) (roM R.1) = if nI (a * 10 + j) = 0 ∨ roM R.1 < nI (a * 10 + j) then some (0, hm G 133 (mS (mA M 14 (4 * L.length + R.1) (R.2.1 R.1)) 11 (nI dg + 0))) else some (1, hm G 133 (mS (mA M 14 (4 * L.length + R.1) (nI (a * 10 + j))) 11 (nI (dg + 1)))) := by
    unfold b_X4_takesDigit_112
    rw [m_R14 b133, obs, m_a14 b133, bd_nI hpl (by decide), obs, hrp, obs, ev2]
    by_cases h0 : a * 10 + j = 0
    · rw [if_pos (by rw [h0]; decide), if_pos (Or.inl (by rw [h0]; rfl)), e142]
    · rw [if_neg (nI_nle (by omega) (by omega))]
      by_cases h1 : roM R.1 < nI (a * 10 + j)
      · rw [if_pos h1, if_pos (Or.inr h1), e142]
      · rw [if_neg h1, if_neg (fun hh => hh.elim (fun h2 => h0 ((nI_zero (by omega)).mp h2)) h1), e142']
  have etk : f_X4_takesDigit (hm G 133 M) 133 (nI j) = if nI (a * 10 + j) = 0 ∨ roM R.1 < nI (a * 10 + j) then some (0, hm G 133 (mS (mA M 14 (4 * L.length + R.1) (R.2.1 R.1)) 11 (nI dg + 0))) else some (1, hm G 133 (mS (mA M 14 (4 * L.length + R.1) (nI (a * 10 + j))) 11 (nI (dg + 1)))) := by
    rw [← e112]
    unfold f_X4_takesDigit
    rw [m_I13 b133, obs, m_I10 b133, obs, e13, e10, ix4l, nI_add, obs, obs, if_neg (show ¬ nI R.1 = (3 : Int32) from fun hh => absurd ((nI3 hp3 3 (by decide)).mp hh) (by omega)), obs]
    by_cases h0 : R.1 = 0
    · rw [if_pos (show nI R.1 = (0 : Int32) by rw [h0]; rfl), show roM R.1 = (5000 : Int32) by rw [h0]; rfl]
    · rw [if_neg (show ¬ nI R.1 = (0 : Int32) from fun hh => h0 ((nI3 hp3 0 (by decide)).mp hh))]
      by_cases h1 : R.1 = 1
      · rw [show roM R.1 = (1000 : Int32) by rw [h1]; rfl]
      · rw [show roM R.1 = (1000 : Int32) by rw [show R.1 = 2 by omega]; rfl]
  unfold dgS
  rw [if_neg (by omega), ev]
  by_cases hc : nI (a * 10 + j) = 0 ∨ roM R.1 < nI (a * 10 + j)
  · rw [if_pos hc] at etk
    exact ⟨_, MRd_trans (MRd_A _ _ _) (MRd_S (Or.inr (Or.inl rfl)) _), Or.inl ⟨if_pos hc, etk⟩⟩
  · rw [if_neg hc] at etk
    have hv : nI (a * 10 + j) ≤ roM R.1 := Int32.not_lt.mp (fun hh => hc (Or.inr hh))
    have hv5 : a * 10 + j ≤ 5000 := roM_le hp (by omega) hv
    have hv0 : ¬ nI (a * 10 + j) = 0 := fun hh => hc (Or.inl hh)
    refine ⟨_, MRd_trans (MRd_A _ _ _) (MRd_S (Or.inr (Or.inl rfl)) _), Or.inr ⟨_, if_neg hc, etk, ?_⟩⟩
    refine ⟨⟨hp3, fun i hi => ?_, fun i hi hi2 => ?_, i4, i5, fun i hi hi2 => ?_⟩, e10, e13, e12, ?_, fun i hi => ?_, dg + 1, rfl, fun hh => absurd (show R.1 = 3 from hh) (by omega), fun _ hh => absurd hh (by omega), by omega, ?_⟩
    · show ∃ a', upd R.2.1 R.1 (nI (a * 10 + j)) i = nI a' ∧ _
      by_cases hii : i = R.1
      · rw [hii, upd_s]
        exact ⟨_, rfl, hv5, hv⟩
      · rw [upd_n hii]
        exact i2 i hi
    · show ¬ upd R.2.1 R.1 (nI (a * 10 + j)) i < roL i
      rw [upd_n (by have : i < R.1 := hi2; omega)]
      exact i3 i hi hi2
    · show upd R.2.1 R.1 (nI (a * 10 + j)) i = 0
      rw [upd_n (by have : R.1 < i := hi2; omega)]
      exact i6 i hi hi2
    · refine hd_congr L 0 (fun y y1 y2 => ?_) hd
      show upd (M.2 14) (4 * L.length + R.1) (nI (a * 10 + j)) y = _
      rw [upd_n (by omega)]
    · show upd (M.2 14) (4 * L.length + R.1) (nI (a * 10 + j)) (4 * L.length + i) = roR (R.1, upd R.2.1 R.1 (nI (a * 10 + j)), R.2.2.1, R.2.2.2) i
      unfold roR
      by_cases hii : i = R.1
      · rw [hii, upd_s, if_pos hp]
        exact upd_s.symm
      · rw [upd_n (by omega), hr i hi]
        unfold roR
        by_cases h3 : i < 3
        · rw [if_pos h3, if_pos h3]
          exact (upd_n hii).symm
        · rw [if_neg h3, if_neg h3]
    · show 4 * L.length + R.1 + (if dg + 1 = 0 then 0 else 1) ≤ k + 1
      rw [if_neg (by omega)]
      split at hb <;> omega
theorem six_seven {j : Nat} (hj : j ≤ 9) : (7 : Int32) ≤ nI j ↔ (6 : Int32) < nI j := by
  rw [show (7 : Int32) = nI 7 from rfl, show (6 : Int32) = nI 6 from rfl, nI_leI (by decide) (by omega), nI_ltI (by decide) (by omega)]
  omega
/-- a digit of the needs -/
theorem z_need_digit {M : MV} {k : Nat} {R : RS} {L : List (Nat → Int32)} (h : RR k R L M) (hk : k < 60) (hp : R.1 = 3) {j : Nat} (hj : j ≤ 9) : ∃ M', MRd M M' ∧ ((dgS (nI j) R = none ∧ f_X4_takesDigit (hm G 133 M) 133 (nI j) = some (0, hm G 133 M')) ∨ ∃ R', dgS (nI j) R = some R' ∧ f_X4_takesDigit (hm G 133 M) 133 (nI j) = some (1, hm G 133 M') ∧ RR (k + 1) R' L M') := by
  obtain ⟨hi, e10, e13, e12, hd, hr, dg, e11, d3, d0, dk, hb⟩ := h
  obtain ⟨hp3, i2, i3, i4, i5, i6⟩ := hi
  have hpl : 4 * L.length + 3 < 64 := by omega
  have hrp : M.2 14 (4 * L.length + 3) = R.2.2.1 := hr 3 (by omega)
  have e38 : b_X4_takesDigit_38 (hm G 133 M) 133 (nI j) (nI (4 * L.length + 3)) = some (0, hm G 133 (mS (mS (mA M 14 (4 * L.length + 3) (R.2.2.1 ||| 0)) 12 R.2.2.2) 11 (nI dg + 0))) := by
    unfold b_X4_takesDigit_38 b_X4_takesDigit_39 b_X4_takesDigit_58 b_X4_takesDigit_73 b_X4_takesDigit_90
    rw [m_R14 b133, obs, m_a14 b133, bd_nI hpl (by decide), obs, if_pos rfl, hrp, m_s14 b133, bd_nI hpl (by decide), obs, if_pos rfl, m_I12 b133, obs, show (mA M 14 (4 * L.length + 3) (R.2.2.1 ||| 0)).1.1 12 = R.2.2.2 from e12, m_P12 b133, obs, m_I11 b133, obs, if_pos rfl, show (mS (mA M 14 (4 * L.length + 3) (R.2.2.1 ||| 0)) 12 R.2.2.2).1.1 11 = nI dg from e11, m_P11 b133, obs, i01]
  have e39 : b_X4_takesDigit_39 (hm G 133 M) 133 (nI j) (nI (4 * L.length + 3)) 1 = some (1, hm G 133 (mS (mS (mA M 14 (4 * L.length + 3) (R.2.2.1 ||| ((1 : Int32) <<< (nI j &&& 31)))) 12 (nI j)) 11 (nI (dg + 1)))) := by
    unfold b_X4_takesDigit_39 b_X4_takesDigit_58 b_X4_takesDigit_73 b_X4_takesDigit_90
    rw [m_R14 b133, obs, m_a14 b133, bd_nI hpl (by decide), obs, if_neg n10, hrp, m_s14 b133, bd_nI hpl (by decide), obs, if_neg n10, m_P12 b133, obs, m_I11 b133, obs, if_neg n10, show (mS (mA M 14 (4 * L.length + 3) (R.2.2.1 ||| ((1 : Int32) <<< (nI j &&& 31)))) 12 (nI j)).1.1 11 = nI dg from e11, nI_1, m_P11 b133, obs, i11]
  have etk : f_X4_takesDigit (hm G 133 M) 133 (nI j) = if 6 < nI j ∨ ¬ R.2.2.2 < nI j then some (0, hm G 133 (mS (mS (mA M 14 (4 * L.length + 3) (R.2.2.1 ||| 0)) 12 R.2.2.2) 11 (nI dg + 0))) else some (1, hm G 133 (mS (mS (mA M 14 (4 * L.length + 3) (R.2.2.1 ||| ((1 : Int32) <<< (nI j &&& 31)))) 12 (nI j)) 11 (nI (dg + 1)))) := by
    unfold f_X4_takesDigit
    rw [m_I13 b133, obs, m_I10 b133, obs, e13, e10, ix4l, nI_add, obs, obs, hp, if_pos (show nI 3 = (3 : Int32) from rfl), m_I12 b133, obs, e12]
    by_cases h1 : nI j ≤ R.2.2.2
    · rw [if_pos h1, if_pos (Or.inr (Int32.not_lt.mpr h1)), e38]
    · rw [if_neg h1]
      by_cases h7 : (7 : Int32) ≤ nI j
      · rw [if_pos h7, if_pos (Or.inl ((six_seven hj).mp h7)), e38]
      · rw [if_neg h7, if_neg (fun hh => hh.elim (fun h2 => h7 ((six_seven hj).mpr h2)) (fun h2 => h1 (Int32.not_lt.mp h2))), e39]
  unfold dgS
  rw [if_pos hp]
  by_cases hc : 6 < nI j ∨ ¬ R.2.2.2 < nI j
  · rw [if_pos hc] at etk
    exact ⟨_, MRd_trans (MRd_trans (MRd_A _ _ _) (MRd_S (Or.inr (Or.inr (Or.inl rfl))) _)) (MRd_S (Or.inr (Or.inl rfl)) _), Or.inl ⟨if_pos hc, etk⟩⟩
  · rw [if_neg hc] at etk
    have hj7 : j < 7 := by
      have : ¬ (7 : Int32) ≤ nI j := fun hh => hc (Or.inl ((six_seven hj).mp hh))
      rw [show (7 : Int32) = nI 7 from rfl, nI_leI (by decide) (by omega)] at this
      omega
    refine ⟨_, MRd_trans (MRd_trans (MRd_A _ _ _) (MRd_S (Or.inr (Or.inr (Or.inl rfl))) _)) (MRd_S (Or.inr (Or.inl rfl)) _), Or.inr ⟨_, if_neg hc, etk, ?_⟩⟩
    refine ⟨⟨hp3, i2, i3, fun hh => absurd (show R.1 < 3 from hh) (by omega), Or.inr ⟨j, hj7, rfl⟩, i6⟩, e10, e13, rfl, ?_, fun i hi => ?_, dg + 1, rfl, fun _ => ⟨fun hh => absurd hh (by omega), fun hh => absurd hh (nI_m1 (by omega))⟩, fun hh => absurd (show R.1 < 3 from hh) (by omega), by omega, ?_⟩
    · refine hd_congr L 0 (fun y y1 y2 => ?_) hd
      show upd (M.2 14) (4 * L.length + 3) _ y = _
      rw [upd_n (by omega)]
    · show upd (M.2 14) (4 * L.length + 3) (R.2.2.1 ||| ((1 : Int32) <<< (nI j &&& 31))) (4 * L.length + i) = roR (R.1, R.2.1, R.2.2.1 ||| ((1 : Int32) <<< (nI j &&& 31)), nI j) i
      unfold roR
      by_cases hii : i = 3
      · rw [hii, upd_s, if_neg (by decide)]
      · rw [upd_n (by omega), hr i hi, roR_lt (by omega), if_pos (by omega)]
    · show 4 * L.length + R.1 + (if dg + 1 = 0 then 0 else 1) ≤ k + 1
      rw [if_neg (by omega)]
      split at hb <;> omega
