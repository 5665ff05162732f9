/-! the reader, abstract: part, numbers, needs, latest need; the class's side -/
abbrev RS : Type := Nat × (Nat → Int32) × Int32 × Int32
def uR (T : TS) (R : RS) : TS := uN (uS (uS (uS T 11 R.2.2.1) 12 (nI R.1)) 13 R.2.2.2) R.2.1
def R0 (g : Nat → Int32) : RS := (0, fun i => if i < 3 then 0 else g i, 0, -1)
def dgS (d : Int32) (R : RS) : Option RS :=
  if R.1 = 3 then (if 6 < d ∨ ¬ R.2.2.2 < d then none else some (R.1, R.2.1, R.2.2.1 ||| ((1 : Int32) <<< (d &&& 31)), d))
  else (if R.2.1 R.1 * 10 + d = 0 ∨ roM R.1 < R.2.1 R.1 * 10 + d then none else some (R.1, upd R.2.1 R.1 (R.2.1 R.1 * 10 + d), R.2.2.1, R.2.2.2))
def enS (R : RS) : Bool := if R.1 = 3 then !decide (R.2.2.2 = -1) else if R.1 = 2 then !decide (R.2.1 2 < roL 2) else false
def tkS (c : Int32) (R : RS) : Option RS :=
  if c < 48 ∨ 57 < c then
    (if c = 47 then (if R.1 < 2 ∧ ¬ R.2.1 R.1 < roL R.1 then some (R.1 + 1, R.2) else none)
    else if c = 60 then (if R.1 = 2 ∧ ¬ R.2.1 2 < roL 2 then some (3, R.2) else none)
    else if c = 59 then (if enS R = true then some (R0 R.2.1) else none) else none)
  else dgS (c - 48) R
variable {T : TS}
theorem uS_uR11 (R : RS) (x : Int32) : uS (uR T R) 11 x = uR T (R.1, R.2.1, x, R.2.2.2) := by
  unfold uR uN uS
  refine Prod.ext (Prod.ext ?_ rfl) rfl
  funext i
  by_cases h1 : i = 11
  · subst h1; rfl
  · simp [h1]
theorem uS_uR12 (R : RS) (p : Nat) : uS (uR T R) 12 (nI p) = uR T (p, R.2) := by
  unfold uR uN uS
  refine Prod.ext (Prod.ext ?_ rfl) rfl
  funext i
  by_cases h1 : i = 12
  · subst h1; rfl
  · simp [h1]
theorem uS_uR13 (R : RS) (x : Int32) : uS (uR T R) 13 x = uR T (R.1, R.2.1, R.2.2.1, x) := by
  unfold uR uN uS
  refine Prod.ext (Prod.ext ?_ rfl) rfl
  funext i
  by_cases h1 : i = 13
  · subst h1; rfl
  · simp [h1]
theorem uN_uR (R : RS) (f : Nat → Int32) : uN (uR T R) f = uR T (R.1, f, R.2.2) := rfl
theorem uR_uR (R R' : RS) : uR (uR T R) R' = uR T R' := by
  unfold uR uN uS
  refine Prod.ext (Prod.ext ?_ rfl) rfl
  funext i
  by_cases h1 : i = 11
  · subst h1; rfl
  by_cases h2 : i = 12
  · subst h2; rfl
  by_cases h3 : i = 13
  · subst h3; rfl
  simp [h1, h2, h3]
theorem r_v2 (R : RS) {α : Type} {o : Option α} : vcall (HT (uR T R)) 2 35 o = o := t_v2 _
theorem r_R (R : RS) : hR (HT (uR T R)) 2 35 0 = some 36 := t_rR _
theorem r_1 (R : RS) : hI (HT (uR T R)) 2 35 1 = some R.2.2.1 := t_r1 _
theorem r_2 (R : RS) : hI (HT (uR T R)) 2 35 2 = some (nI R.1) := t_r2 _
theorem r_3 (R : RS) : hI (HT (uR T R)) 2 35 3 = some R.2.2.2 := t_r3 _
theorem r_a (R : RS) {j : Int32} : aI (HT (uR T R)) 36 j = bd 3 j R.2.1 := t_aN _
theorem r_s (R : RS) {j x : Int32} : sI (HT (uR T R)) 36 j x = bd 3 j (fun i => HT (uR T (R.1, upd R.2.1 i x, R.2.2))) := t_sN _
theorem r_P1 (R : RS) (x : Int32) : hP (HT (uR T R)) 2 35 1 (.int x) = some (HT (uR T (R.1, R.2.1, x, R.2.2.2))) := by rw [t_rP1, uS_uR11]
theorem r_P2 (R : RS) (p : Nat) : hP (HT (uR T R)) 2 35 2 (.int (nI p)) = some (HT (uR T (p, R.2))) := by rw [t_rP2, uS_uR12]
theorem r_P3 (R : RS) (x : Int32) : hP (HT (uR T R)) 2 35 3 (.int x) = some (HT (uR T (R.1, R.2.1, R.2.2.1, x))) := by rw [t_rP3, uS_uR13]
theorem bd3_0 {α : Type} {k : Nat → α} : bd 3 (0 : Int32) k = some (k 0) := bd_nI (r := 0) (by decide) (by decide)
theorem bd3_1 {α : Type} {k : Nat → α} : bd 3 (1 : Int32) k = some (k 1) := bd_nI (r := 1) (by decide) (by decide)
theorem bd3_2 {α : Type} {k : Nat → α} : bd 3 (2 : Int32) k = some (k 2) := bd_nI (r := 2) (by decide) (by decide)
theorem c_beginStep (T : TS) {k fuel : Nat} (hk : k < 3) : f_X2_begin_2 (fuel + 1) (HT T) 35 (nI k) = f_X2_begin_2 fuel (HT (uN T (upd T.2.1.2 k 0))) 35 (nI (k + 1)) := by
  show b_X2_begin_2 _ _ _ _ = _
  unfold b_X2_begin_2
  rw [if_neg (by rw [show (3 : Int32) = nI 3 from rfl]; exact nI_ge hk (by decide)), t_rR, obs, t_sN, bd_nI hk (by decide), obs, nI_1]
theorem c_beginEnd (T : TS) (fuel : Nat) : f_X2_begin_2 (fuel + 1) (HT T) 35 (nI 3) = some (HT (uS (uS (uS T 11 0) 12 0) 13 (-1))) := by
  show b_X2_begin_2 _ _ _ _ = _
  unfold b_X2_begin_2
  rw [if_pos (by decide), t_rP1, obs, t_rP2, obs, t_rP3, obs]
theorem c_begin (T : TS) : f_X2_begin (HT T) 35 = some (HT (uR T (R0 T.2.1.2))) := by
  unfold f_X2_begin
  obtain ⟨w, hw⟩ : ∃ w, FU = w + 1 + 1 + 1 + 1 := ⟨2996, FU_eq⟩
  rw [hw, show (0 : Int32) = nI 0 from rfl, c_beginStep _ (by decide), c_beginStep _ (by decide), c_beginStep _ (by decide), c_beginEnd]
  refine congrArg some (congrArg HT ?_)
  refine Prod.ext rfl (Prod.ext (Prod.ext rfl ?_) rfl)
  funext i
  show upd (upd (upd T.2.1.2 0 0) 1 0) 2 0 i = if i < 3 then 0 else T.2.1.2 i
  unfold upd
  by_cases h0 : i = 0
  · subst h0; rfl
  by_cases h1 : i = 1
  · subst h1; rfl
  by_cases h2 : i = 2
  · subst h2; rfl
  rw [if_neg h2, if_neg h1, if_neg h0, if_neg (by omega)]
theorem c_beginR (R : RS) : f_X2_begin (HT (uR T R)) 35 = some (HT (uR T (R0 R.2.1))) := by
  rw [c_begin, uR_uR]
  rfl
theorem c_digit (d : Int32) {R : RS} (hp : R.1 < 3) : f_X2_takeDigit (HT (uR T R)) 35 d = some (Option.elim (dgS d R) (0, HT (uR T R)) (fun R' => (1, HT (uR T R')))) := by
  unfold f_X2_takeDigit b_X2_takeDigit_31 dgS
  rw [if_neg (by omega), r_R, obs, r_2, obs, r_a, bd_nI hp (by decide), obs, obs]
  by_cases h0 : R.2.1 R.1 * 10 + d = 0
  · rw [if_pos h0, if_pos (Or.inl h0), i01]
    rfl
  · rw [if_neg h0, obs, rA_nI (by omega) (by decide), obs]
    by_cases h1 : R.2.1 R.1 * 10 + d ≤ roM R.1
    · rw [if_pos h1, if_neg (fun hh => hh.elim h0 (fun h2 => Int32.not_lt.mpr h1 h2)), obs, obs, r_s, bd_nI hp (by decide), obs, i11]
      rfl
    · rw [if_neg h1, if_pos (Or.inr (by rw [← Int32.not_le]; exact h1)), i01]
      rfl
theorem c_need (d : Int32) {R : RS} (hp : R.1 = 3) : f_X2_takeNeed (HT (uR T R)) 35 d = some (Option.elim (dgS d R) (0, HT (uR T R)) (fun R' => (1, HT (uR T R')))) := by
  unfold f_X2_takeNeed b_X2_takeNeed_14 dgS
  rw [if_pos hp]
  by_cases h0 : 6 < d
  · rw [if_pos h0, if_pos (Or.inl h0), i01]
    rfl
  · rw [if_neg h0, r_3, obs]
    by_cases h1 : R.2.2.2 < d
    · rw [if_pos h1, if_neg (fun hh => hh.elim h0 (fun h2 => h2 h1)), r_1, obs, r_P1, obs, r_P3, obs, i11]
      rfl
    · rw [if_neg h1, if_pos (Or.inr h1), i01]
      rfl
theorem c_complete {R : RS} (hp : R.1 < 3) : f_X2_isNumberComplete (HT (uR T R)) 35 = some (if R.2.1 R.1 < roL R.1 then 0 else 1) := by
  unfold f_X2_isNumberComplete b_X2_isNumberComplete_25
  rw [r_R, obs, r_2, obs, r_a, bd_nI hp (by decide), obs, obs, rA_nI (by omega) (by decide), obs]
  by_cases h : R.2.1 R.1 < roL R.1
  · rw [if_pos h, if_pos h, i01]
  · rw [if_neg h, if_neg h, i11]
theorem c_part {R : RS} (hp : R.1 < 3) (q : Nat) : f_X2_takePart (HT (uR T R)) 35 (nI q) = some (if R.2.1 R.1 < roL R.1 then (0, HT (uR T R)) else (1, HT (uR T (q, R.2)))) := by
  unfold f_X2_takePart
  rw [r_v2, c_complete hp, obs]
  by_cases h : R.2.1 R.1 < roL R.1
  · rw [if_pos h, if_pos h, if_pos rfl, i01]
  · rw [if_neg h, if_neg h, if_neg n10, r_P2, obs, i11]
theorem nI3 {p : Nat} (hp : p ≤ 3) (q : Nat) (hq : q ≤ 3) : nI p = nI q ↔ p = q := nI_eq (by omega) (by omega)
theorem c_end {R : RS} (hp : R.1 ≤ 3) : f_X2_isAtEndOfRail (HT (uR T R)) 35 = some (if enS R = true then 1 else 0) := by
  unfold f_X2_isAtEndOfRail b_X2_isAtEndOfRail_21 b_X2_isAtEndOfRail_41 b_X2_isAtEndOfRail_42 enS
  rw [r_2, obs]
  by_cases h3 : R.1 = 3
  · rw [if_pos (show nI R.1 = (3 : Int32) by rw [h3]; rfl), if_pos h3, r_3, obs]
    by_cases h : R.2.2.2 = -1
    · rw [if_pos h, decide_eq_true h]
      rfl
    · rw [if_neg h, decide_eq_false h]
      rfl
  · rw [if_neg (show ¬ nI R.1 = (3 : Int32) from fun hh => h3 ((nI3 hp 3 (by decide)).mp hh)), if_neg h3, obs]
    by_cases h2 : R.1 = 2
    · rw [if_pos (show nI R.1 = (2 : Int32) by rw [h2]; rfl), if_pos h2, r_v2, c_complete (by omega), obs, h2]
      by_cases h : R.2.1 2 < roL 2
      · rw [if_pos h, if_pos rfl, decide_eq_true h]
        rfl
      · rw [if_neg h, if_neg n10, decide_eq_false h]
        rfl
    · rw [if_neg (show ¬ nI R.1 = (2 : Int32) from fun hh => h2 ((nI3 hp 2 (by decide)).mp hh)), if_neg h2]
      rfl
/-- the class takes a character -/
theorem c_take (c : Int32) {R : RS} (hp : R.1 ≤ 3) : f_X2_take (HT (uR T R)) 35 c = some (Option.elim (tkS c R) (0, HT (uR T R)) (fun R' => (1, HT (uR T R')))) := by
  have e40 : b_X2_take_40 (HT (uR T R)) 35 c = some (Option.elim (if c = 47 then (if R.1 < 2 ∧ ¬ R.2.1 R.1 < roL R.1 then some (R.1 + 1, R.2) else none)
    else if c = 60 then (if R.1 = 2 ∧ ¬ R.2.1 2 < roL 2 then some (3, R.2) else none)
    else if c = 59 then (if enS R = true then some (R0 R.2.1) else none) else none) (0, HT (uR T R)) (fun R' => (1, HT (uR T R')))) := by
    unfold b_X2_take_40
    by_cases h47 : c = 47
    · rw [if_pos h47, if_pos h47, r_2, obs]
      have e61 : R.1 < 2 → b_X2_take_61 (HT (uR T R)) 35 = some (Option.elim (if R.1 < 2 ∧ ¬ R.2.1 R.1 < roL R.1 then some (R.1 + 1, R.2) else none) (0, HT (uR T R)) (fun R' => (1, HT (uR T R')))) := by
        intro hl
        unfold b_X2_take_61 b_X2_take_78 b_X2_take_79
        rw [r_2, obs, r_v2, nI_1, c_part (by omega), obs]
        by_cases h : R.2.1 R.1 < roL R.1
        · rw [if_pos h, if_pos rfl, if_neg (fun hh => hh.2 h), i01]
          rfl
        · rw [if_neg h, if_neg n10, if_pos ⟨hl, h⟩, i11]
          rfl
      by_cases h0 : R.1 = 0
      · rw [if_pos (show nI R.1 = (0 : Int32) by rw [h0]; rfl)]
        exact e61 (by omega)
      · rw [if_neg (show ¬ nI R.1 = (0 : Int32) from fun hh => h0 ((nI3 hp 0 (by decide)).mp hh)), obs]
        by_cases h1 : R.1 = 1
        · rw [if_pos (show nI R.1 = (1 : Int32) by rw [h1]; rfl)]
          exact e61 (by omega)
        · rw [if_neg (show ¬ nI R.1 = (1 : Int32) from fun hh => h1 ((nI3 hp 1 (by decide)).mp hh)), if_neg (fun hh => absurd hh.1 (by omega))]
          unfold b_X2_take_78 b_X2_take_79
          rw [i01]
          rfl
    · rw [if_neg h47, if_neg h47]
      by_cases h60 : c = 60
      · rw [if_pos h60, if_pos h60, r_2, obs]
        by_cases h2 : R.1 = 2
        · rw [if_pos (show nI R.1 = (2 : Int32) by rw [h2]; rfl), r_v2, show (3 : Int32) = nI 3 from rfl, c_part (by omega), obs]
          unfold b_X2_take_106 b_X2_take_107
          rw [h2]
          by_cases h : R.2.1 2 < roL 2
          · rw [if_pos h, if_pos rfl, if_neg (fun hh => hh.2 h), i01]
            rfl
          · rw [if_neg h, if_neg n10, if_pos ⟨rfl, h⟩, i11]
            rfl
        · rw [if_neg (show ¬ nI R.1 = (2 : Int32) from fun hh => h2 ((nI3 hp 2 (by decide)).mp hh)), if_neg (fun hh => h2 hh.1)]
          unfold b_X2_take_106 b_X2_take_107
          rw [i01]
          rfl
      · rw [if_neg h60, if_neg h60]
        by_cases h59 : c = 59
        · rw [if_pos h59, if_pos h59, r_v2, c_end hp, obs]
          by_cases h : enS R = true
          · rw [if_pos h, if_pos h, if_neg n10, r_v2, c_beginR, obs, i11]
            rfl
          · rw [if_neg h, if_neg h, if_pos rfl]
            unfold b_X2_take_127
            rw [i01]
            rfl
        · rw [if_neg h59, if_neg h59]
          unfold b_X2_take_127
          rw [i01]
          rfl
  unfold f_X2_take tkS
  by_cases hc1 : c < 48
  · rw [if_pos hc1, if_pos (Or.inl hc1)]
    exact e40
  · rw [if_neg hc1]
    by_cases hc2 : 57 < c
    · rw [if_pos hc2, if_pos (Or.inr hc2)]
      exact e40
    · rw [if_neg hc2, if_neg (fun hh => hh.elim hc1 hc2), r_2, obs]
      unfold b_X2_take_39
      by_cases h3 : R.1 = 3
      · rw [if_pos (show nI R.1 = (3 : Int32) by rw [h3]; rfl), r_v2, c_need _ h3, obs]
        cases dgS (c - 48) R with
        | none => exact congrArg (fun x => some (x, HT (uR T R))) i01
        | some R' => exact congrArg (fun x => some (x, HT (uR T R'))) i11
      · rw [if_neg (show ¬ nI R.1 = (3 : Int32) from fun hh => h3 ((nI3 hp 3 (by decide)).mp hh)), r_v2, c_digit _ (by omega), obs]
        cases dgS (c - 48) R with
        | none => exact congrArg (fun x => some (x, HT (uR T R))) i01
        | some R' => exact congrArg (fun x => some (x, HT (uR T R'))) i11
/-- a text read to its end or to its first error: where, what the reader holds then, the rails behind it -/
def roR (R : RS) : Nat → Int32 := fun i => if i < 3 then R.2.1 i else R.2.2.1
def rdL (B : Nat → Int32) : Nat → Nat → RS → List (Nat → Int32) → Nat × RS × List (Nat → Int32)
  | 0, k, R, L => (k, R, L)
  | m + 1, k, R, L => Option.elim (tkS (B k) R) (k, R, L) (fun R' => rdL B m (k + 1) R' (if B k = 59 then L ++ [roR R] else L))
theorem tk_le {c : Int32} {R R' : RS} (hp : R.1 ≤ 3) (h : tkS c R = some R') : R'.1 ≤ 3 := by
  unfold tkS dgS at h
  split at h
  · split at h
    · split at h
      · next h2 =>
        cases h
        show R.1 + 1 ≤ 3
        omega
      · cases h
    · split at h
      · split at h
        · cases h
          exact Nat.le_refl 3
        · cases h
      · split at h
        · split at h
          · cases h
            exact Nat.zero_le 3
          · cases h
        · cases h
  · split at h
    · split at h
      · cases h
      · cases h
        exact hp
    · split at h
      · cases h
      · cases h
        exact hp
theorem rd_le {B : Nat → Int32} : ∀ (m k : Nat) (R : RS) (L : List (Nat → Int32)), k ≤ (rdL B m k R L).1 ∧ (rdL B m k R L).1 ≤ k + m ∧ (R.1 ≤ 3 → (rdL B m k R L).2.1.1 ≤ 3) := by
  intro m
  induction m with
  | zero => exact fun k R L => ⟨Nat.le_refl _, Nat.le_refl _, id⟩
  | succ m ih =>
    intro k R L
    unfold rdL
    cases h : tkS (B k) R with
    | none => exact ⟨Nat.le_refl _, by show k ≤ _; omega, id⟩
    | some R' =>
      obtain ⟨i1, i2, i3⟩ := ih (k + 1) R' (if B k = 59 then L ++ [roR R] else L)
      exact ⟨by show k ≤ (rdL B m (k + 1) R' _).1; omega, by show (rdL B m (k + 1) R' _).1 ≤ _; omega, fun hp => i3 (tk_le hp h)⟩
theorem c_readLoop {n : Nat} (hn : n ≤ 60) (h5 : T.1.1 5 = nI n) : ∀ (m k fuel : Nat) (R : RS) (L : List (Nat → Int32)), R.1 ≤ 3 → k + m = n → m < fuel → f_X3_readBuffer_9 fuel (HT (uR T R)) 0 (nI k) = some (nI (rdL T.2.1.1 m k R L).1, HT (uR T (rdL T.2.1.1 m k R L).2.1)) := by
  intro m
  induction m with
  | zero =>
    intro k fuel R L hp hk hf
    obtain ⟨fuel, rfl⟩ : ∃ f, fuel = f + 1 := ⟨fuel - 1, by omega⟩
    show b_X3_readBuffer_9 _ _ _ _ = _
    unfold b_X3_readBuffer_9
    rw [t_I5, obs, show (uR T R).1.1 5 = nI n from h5, if_pos (nI_le (by omega) (by omega)), obs, show n = k by omega]
    rfl
  | succ m ih =>
    intro k fuel R L hp hk hf
    obtain ⟨fuel, rfl⟩ : ∃ f, fuel = f + 1 := ⟨fuel - 1, by omega⟩
    show b_X3_readBuffer_9 _ _ _ _ = _
    unfold b_X3_readBuffer_9 rdL
    rw [t_I5, obs, show (uR T R).1.1 5 = nI n from h5, if_neg (nI_ge (by omega) (by omega)), t_R6, obs, t_R4, obs, t_aB, bd_nI (by omega) (by decide), obs, r_v2, show (uR T R).2.1.1 k = T.2.1.1 k from rfl, c_take _ hp, obs]
    cases h : tkS (T.2.1.1 k) R with
    | none => rfl
    | some R' =>
      show (if (1 : Int32) = 0 then _ else f_X3_readBuffer_9 fuel (HT (uR T R')) 0 (nI k + 1)) = _
      rw [if_neg n10, nI_1]
      exact ih (k + 1) fuel R' _ (tk_le hp h) (by omega) (by omega)
theorem c_read {n : Nat} (hn : n ≤ 60) (h5 : T.1.1 5 = nI n) : f_X3_readBuffer (HT T) 0 = some (nI (rdL T.2.1.1 n 0 (R0 T.2.1.2) []).1, HT (uR T (rdL T.2.1.1 n 0 (R0 T.2.1.2) []).2.1)) := by
  unfold f_X3_readBuffer
  rw [t_R6, obs, t_v2, c_begin, obs]
  exact c_readLoop hn h5 n 0 FU (R0 T.2.1.2) [] (Nat.zero_le 3) (by omega) (by rw [FU_eq]; omega)
