/-! a rail's numbers, on both sides -/
def bitI (r : Nat) : Int32 := (1 : Int32) <<< (nI r &&& 31)
def nuF (P : PV) (n r w : Nat) : Int32 :=
  if w = 8 then foF (P.2 5) n 0 (bitI r) &&& (bitI r ^^^ (-1 : Int32))
  else if w = 9 then (if tb (P.1 3) r = true then 1 else 0)
  else if w = 12 then (if flgR (rowP P r) = true then 1 else 0)
  else if w = 18 then fbO (P.2 12) r
  else if w < 9 then rowP P r w else if w < 12 then rowP P r (w - 1) else rowP P r (w - 2)
theorem nu18 (P : PV) (n r : Nat) : nuF P n r 18 = fbO (P.2 12) r := by
  unfold nuF
  rw [if_neg (by decide), if_neg (by decide), if_neg (by decide), if_pos rfl]
variable {G : Nat → MC} {b : Nat}
theorem a_propG (hb : b ≤ 125) {P : PV} {r p : Nat} (hr : r < 8) (hq : p < 7) : f_X1_propertyOf (hp G b P) b (nI r) (nI p) = some (rowP P r p) := by
  unfold f_X1_propertyOf
  rw [p_R4 hb, obs, p_a4 hb, ix7, nI_add, bd_nI (by omega) (by decide), obs, rd_p P r hq]
theorem a_foll (hb : b ≤ 125) {P : PV} {n : Nat} (hn8 : n ≤ 8) (h0 : P.1 0 = nI n) (x : Int32) : f_X1_withFollowers (hp G b P) b x = some (foF (P.2 5) n 0 x) := by
  unfold f_X1_withFollowers
  exact a_follLoop hb h0 hn8 n 0 FU x (by omega) (by rw [FU_eq]; omega)
theorem nI_ne {a c : Nat} (ha : a < 100) (hc : c < 100) (h : a ≠ c) : ¬ nI a = nI c := by
  rw [nI_eq (by omega) (by omega)]
  exact h

theorem a_num0 (hb : b ≤ 125) {P : PV} {n r : Nat} (hn8 : n ≤ 8) (h0 : P.1 0 = nI n) (hbl : ∀ i, i < n → P.2 12 i = -1 ∨ ∃ k, k ≤ i ∧ P.2 12 i = nI k) (hr : r < n) : f_X1_numberOf (hp G b P) b (nI r) (nI 0) = some (nuF P n r 0) := by
  have hr8 : r < 8 := by omega
  unfold f_X1_numberOf b_X1_numberOf_98 b_X1_numberOf_126
  rw [if_neg (show ¬ nI 0 = (7 : Int32) from nI_ne (by decide) (by decide) (by decide)), if_neg (show ¬ nI 0 = (8 : Int32) from nI_ne (by decide) (by decide) (by decide)), if_neg (show ¬ nI 0 = (9 : Int32) from nI_ne (by decide) (by decide) (by decide)), if_neg (show ¬ nI 0 = (10 : Int32) from nI_ne (by decide) (by decide) (by decide)), if_neg (show ¬ nI 0 = (11 : Int32) from nI_ne (by decide) (by decide) (by decide)), if_neg (show ¬ nI 0 = (12 : Int32) from nI_ne (by decide) (by decide) (by decide)), if_neg (show ¬ nI 0 = (13 : Int32) from nI_ne (by decide) (by decide) (by decide)), if_neg (show ¬ nI 0 = (14 : Int32) from nI_ne (by decide) (by decide) (by decide)), if_neg (show ¬ nI 0 = (15 : Int32) from nI_ne (by decide) (by decide) (by decide)), if_neg (show ¬ nI 0 = (16 : Int32) from nI_ne (by decide) (by decide) (by decide)), if_neg (show ¬ nI 0 = (17 : Int32) from nI_ne (by decide) (by decide) (by decide)), if_neg (show ¬ nI 0 = (18 : Int32) from nI_ne (by decide) (by decide) (by decide)), p_v1 hb, a_propG hb hr8 (by decide), obs]
  rfl
theorem a_num1 (hb : b ≤ 125) {P : PV} {n r : Nat} (hn8 : n ≤ 8) (h0 : P.1 0 = nI n) (hbl : ∀ i, i < n → P.2 12 i = -1 ∨ ∃ k, k ≤ i ∧ P.2 12 i = nI k) (hr : r < n) : f_X1_numberOf (hp G b P) b (nI r) (nI 1) = some (nuF P n r 1) := by
  have hr8 : r < 8 := by omega
  unfold f_X1_numberOf b_X1_numberOf_98 b_X1_numberOf_126
  rw [if_neg (show ¬ nI 1 = (7 : Int32) from nI_ne (by decide) (by decide) (by decide)), if_neg (show ¬ nI 1 = (8 : Int32) from nI_ne (by decide) (by decide) (by decide)), if_neg (show ¬ nI 1 = (9 : Int32) from nI_ne (by decide) (by decide) (by decide)), if_neg (show ¬ nI 1 = (10 : Int32) from nI_ne (by decide) (by decide) (by decide)), if_neg (show ¬ nI 1 = (11 : Int32) from nI_ne (by decide) (by decide) (by decide)), if_neg (show ¬ nI 1 = (12 : Int32) from nI_ne (by decide) (by decide) (by decide)), if_neg (show ¬ nI 1 = (13 : Int32) from nI_ne (by decide) (by decide) (by decide)), if_neg (show ¬ nI 1 = (14 : Int32) from nI_ne (by decide) (by decide) (by decide)), if_neg (show ¬ nI 1 = (15 : Int32) from nI_ne (by decide) (by decide) (by decide)), if_neg (show ¬ nI 1 = (16 : Int32) from nI_ne (by decide) (by decide) (by decide)), if_neg (show ¬ nI 1 = (17 : Int32) from nI_ne (by decide) (by decide) (by decide)), if_neg (show ¬ nI 1 = (18 : Int32) from nI_ne (by decide) (by decide) (by decide)), p_v1 hb, a_propG hb hr8 (by decide), obs]
  rfl
theorem a_num2 (hb : b ≤ 125) {P : PV} {n r : Nat} (hn8 : n ≤ 8) (h0 : P.1 0 = nI n) (hbl : ∀ i, i < n → P.2 12 i = -1 ∨ ∃ k, k ≤ i ∧ P.2 12 i = nI k) (hr : r < n) : f_X1_numberOf (hp G b P) b (nI r) (nI 2) = some (nuF P n r 2) := by
  have hr8 : r < 8 := by omega
  unfold f_X1_numberOf b_X1_numberOf_98 b_X1_numberOf_126
  rw [if_neg (show ¬ nI 2 = (7 : Int32) from nI_ne (by decide) (by decide) (by decide)), if_neg (show ¬ nI 2 = (8 : Int32) from nI_ne (by decide) (by decide) (by decide)), if_neg (show ¬ nI 2 = (9 : Int32) from nI_ne (by decide) (by decide) (by decide)), if_neg (show ¬ nI 2 = (10 : Int32) from nI_ne (by decide) (by decide) (by decide)), if_neg (show ¬ nI 2 = (11 : Int32) from nI_ne (by decide) (by decide) (by decide)), if_neg (show ¬ nI 2 = (12 : Int32) from nI_ne (by decide) (by decide) (by decide)), if_neg (show ¬ nI 2 = (13 : Int32) from nI_ne (by decide) (by decide) (by decide)), if_neg (show ¬ nI 2 = (14 : Int32) from nI_ne (by decide) (by decide) (by decide)), if_neg (show ¬ nI 2 = (15 : Int32) from nI_ne (by decide) (by decide) (by decide)), if_neg (show ¬ nI 2 = (16 : Int32) from nI_ne (by decide) (by decide) (by decide)), if_neg (show ¬ nI 2 = (17 : Int32) from nI_ne (by decide) (by decide) (by decide)), if_neg (show ¬ nI 2 = (18 : Int32) from nI_ne (by decide) (by decide) (by decide)), p_v1 hb, a_propG hb hr8 (by decide), obs]
  rfl
theorem a_num3 (hb : b ≤ 125) {P : PV} {n r : Nat} (hn8 : n ≤ 8) (h0 : P.1 0 = nI n) (hbl : ∀ i, i < n → P.2 12 i = -1 ∨ ∃ k, k ≤ i ∧ P.2 12 i = nI k) (hr : r < n) : f_X1_numberOf (hp G b P) b (nI r) (nI 3) = some (nuF P n r 3) := by
  have hr8 : r < 8 := by omega
  unfold f_X1_numberOf b_X1_numberOf_98 b_X1_numberOf_126
  rw [if_neg (show ¬ nI 3 = (7 : Int32) from nI_ne (by decide) (by decide) (by decide)), if_neg (show ¬ nI 3 = (8 : Int32) from nI_ne (by decide) (by decide) (by decide)), if_neg (show ¬ nI 3 = (9 : Int32) from nI_ne (by decide) (by decide) (by decide)), if_neg (show ¬ nI 3 = (10 : Int32) from nI_ne (by decide) (by decide) (by decide)), if_neg (show ¬ nI 3 = (11 : Int32) from nI_ne (by decide) (by decide) (by decide)), if_neg (show ¬ nI 3 = (12 : Int32) from nI_ne (by decide) (by decide) (by decide)), if_neg (show ¬ nI 3 = (13 : Int32) from nI_ne (by decide) (by decide) (by decide)), if_neg (show ¬ nI 3 = (14 : Int32) from nI_ne (by decide) (by decide) (by decide)), if_neg (show ¬ nI 3 = (15 : Int32) from nI_ne (by decide) (by decide) (by decide)), if_neg (show ¬ nI 3 = (16 : Int32) from nI_ne (by decide) (by decide) (by decide)), if_neg (show ¬ nI 3 = (17 : Int32) from nI_ne (by decide) (by decide) (by decide)), if_neg (show ¬ nI 3 = (18 : Int32) from nI_ne (by decide) (by decide) (by decide)), p_v1 hb, a_propG hb hr8 (by decide), obs]
  rfl
theorem a_num4 (hb : b ≤ 125) {P : PV} {n r : Nat} (hn8 : n ≤ 8) (h0 : P.1 0 = nI n) (hbl : ∀ i, i < n → P.2 12 i = -1 ∨ ∃ k, k ≤ i ∧ P.2 12 i = nI k) (hr : r < n) : f_X1_numberOf (hp G b P) b (nI r) (nI 4) = some (nuF P n r 4) := by
  have hr8 : r < 8 := by omega
  unfold f_X1_numberOf b_X1_numberOf_98 b_X1_numberOf_126
  rw [if_neg (show ¬ nI 4 = (7 : Int32) from nI_ne (by decide) (by decide) (by decide)), if_neg (show ¬ nI 4 = (8 : Int32) from nI_ne (by decide) (by decide) (by decide)), if_neg (show ¬ nI 4 = (9 : Int32) from nI_ne (by decide) (by decide) (by decide)), if_neg (show ¬ nI 4 = (10 : Int32) from nI_ne (by decide) (by decide) (by decide)), if_neg (show ¬ nI 4 = (11 : Int32) from nI_ne (by decide) (by decide) (by decide)), if_neg (show ¬ nI 4 = (12 : Int32) from nI_ne (by decide) (by decide) (by decide)), if_neg (show ¬ nI 4 = (13 : Int32) from nI_ne (by decide) (by decide) (by decide)), if_neg (show ¬ nI 4 = (14 : Int32) from nI_ne (by decide) (by decide) (by decide)), if_neg (show ¬ nI 4 = (15 : Int32) from nI_ne (by decide) (by decide) (by decide)), if_neg (show ¬ nI 4 = (16 : Int32) from nI_ne (by decide) (by decide) (by decide)), if_neg (show ¬ nI 4 = (17 : Int32) from nI_ne (by decide) (by decide) (by decide)), if_neg (show ¬ nI 4 = (18 : Int32) from nI_ne (by decide) (by decide) (by decide)), p_v1 hb, a_propG hb hr8 (by decide), obs]
  rfl
theorem a_num5 (hb : b ≤ 125) {P : PV} {n r : Nat} (hn8 : n ≤ 8) (h0 : P.1 0 = nI n) (hbl : ∀ i, i < n → P.2 12 i = -1 ∨ ∃ k, k ≤ i ∧ P.2 12 i = nI k) (hr : r < n) : f_X1_numberOf (hp G b P) b (nI r) (nI 5) = some (nuF P n r 5) := by
  have hr8 : r < 8 := by omega
  unfold f_X1_numberOf b_X1_numberOf_98 b_X1_numberOf_126
  rw [if_neg (show ¬ nI 5 = (7 : Int32) from nI_ne (by decide) (by decide) (by decide)), if_neg (show ¬ nI 5 = (8 : Int32) from nI_ne (by decide) (by decide) (by decide)), if_neg (show ¬ nI 5 = (9 : Int32) from nI_ne (by decide) (by decide) (by decide)), if_neg (show ¬ nI 5 = (10 : Int32) from nI_ne (by decide) (by decide) (by decide)), if_neg (show ¬ nI 5 = (11 : Int32) from nI_ne (by decide) (by decide) (by decide)), if_neg (show ¬ nI 5 = (12 : Int32) from nI_ne (by decide) (by decide) (by decide)), if_neg (show ¬ nI 5 = (13 : Int32) from nI_ne (by decide) (by decide) (by decide)), if_neg (show ¬ nI 5 = (14 : Int32) from nI_ne (by decide) (by decide) (by decide)), if_neg (show ¬ nI 5 = (15 : Int32) from nI_ne (by decide) (by decide) (by decide)), if_neg (show ¬ nI 5 = (16 : Int32) from nI_ne (by decide) (by decide) (by decide)), if_neg (show ¬ nI 5 = (17 : Int32) from nI_ne (by decide) (by decide) (by decide)), if_neg (show ¬ nI 5 = (18 : Int32) from nI_ne (by decide) (by decide) (by decide)), p_v1 hb, a_propG hb hr8 (by decide), obs]
  rfl
theorem a_num6 (hb : b ≤ 125) {P : PV} {n r : Nat} (hn8 : n ≤ 8) (h0 : P.1 0 = nI n) (hbl : ∀ i, i < n → P.2 12 i = -1 ∨ ∃ k, k ≤ i ∧ P.2 12 i = nI k) (hr : r < n) : f_X1_numberOf (hp G b P) b (nI r) (nI 6) = some (nuF P n r 6) := by
  have hr8 : r < 8 := by omega
  unfold f_X1_numberOf b_X1_numberOf_98 b_X1_numberOf_126
  rw [if_neg (show ¬ nI 6 = (7 : Int32) from nI_ne (by decide) (by decide) (by decide)), if_neg (show ¬ nI 6 = (8 : Int32) from nI_ne (by decide) (by decide) (by decide)), if_neg (show ¬ nI 6 = (9 : Int32) from nI_ne (by decide) (by decide) (by decide)), if_neg (show ¬ nI 6 = (10 : Int32) from nI_ne (by decide) (by decide) (by decide)), if_neg (show ¬ nI 6 = (11 : Int32) from nI_ne (by decide) (by decide) (by decide)), if_neg (show ¬ nI 6 = (12 : Int32) from nI_ne (by decide) (by decide) (by decide)), if_neg (show ¬ nI 6 = (13 : Int32) from nI_ne (by decide) (by decide) (by decide)), if_neg (show ¬ nI 6 = (14 : Int32) from nI_ne (by decide) (by decide) (by decide)), if_neg (show ¬ nI 6 = (15 : Int32) from nI_ne (by decide) (by decide) (by decide)), if_neg (show ¬ nI 6 = (16 : Int32) from nI_ne (by decide) (by decide) (by decide)), if_neg (show ¬ nI 6 = (17 : Int32) from nI_ne (by decide) (by decide) (by decide)), if_neg (show ¬ nI 6 = (18 : Int32) from nI_ne (by decide) (by decide) (by decide)), p_v1 hb, a_propG hb hr8 (by decide), obs]
  rfl
theorem a_num7 (hb : b ≤ 125) {P : PV} {n r : Nat} (hn8 : n ≤ 8) (h0 : P.1 0 = nI n) (hbl : ∀ i, i < n → P.2 12 i = -1 ∨ ∃ k, k ≤ i ∧ P.2 12 i = nI k) (hr : r < n) : f_X1_numberOf (hp G b P) b (nI r) (nI 7) = some (nuF P n r 7) := by
  have hr8 : r < 8 := by omega
  unfold f_X1_numberOf b_X1_numberOf_98 b_X1_numberOf_126
  rw [if_pos (show nI 7 = (7 : Int32) from rfl), p_R5 hb, obs, p_a5 hb, bd_nI (by omega) (by decide), obs]
  rfl
theorem a_num8 (hb : b ≤ 125) {P : PV} {n r : Nat} (hn8 : n ≤ 8) (h0 : P.1 0 = nI n) (hbl : ∀ i, i < n → P.2 12 i = -1 ∨ ∃ k, k ≤ i ∧ P.2 12 i = nI k) (hr : r < n) : f_X1_numberOf (hp G b P) b (nI r) (nI 8) = some (nuF P n r 8) := by
  have hr8 : r < 8 := by omega
  unfold f_X1_numberOf b_X1_numberOf_98 b_X1_numberOf_126
  rw [if_neg (show ¬ nI 8 = (7 : Int32) from nI_ne (by decide) (by decide) (by decide)), if_pos (show nI 8 = (8 : Int32) from rfl), p_v1 hb, a_foll hb hn8 h0, obs]
  rfl
theorem a_num9 (hb : b ≤ 125) {P : PV} {n r : Nat} (hn8 : n ≤ 8) (h0 : P.1 0 = nI n) (hbl : ∀ i, i < n → P.2 12 i = -1 ∨ ∃ k, k ≤ i ∧ P.2 12 i = nI k) (hr : r < n) : f_X1_numberOf (hp G b P) b (nI r) (nI 9) = some (nuF P n r 9) := by
  have hr8 : r < 8 := by omega
  unfold f_X1_numberOf b_X1_numberOf_98 b_X1_numberOf_126
  rw [if_neg (show ¬ nI 9 = (7 : Int32) from nI_ne (by decide) (by decide) (by decide)), if_neg (show ¬ nI 9 = (8 : Int32) from nI_ne (by decide) (by decide) (by decide)), if_pos (show nI 9 = (9 : Int32) from rfl), p_v1 hb, a_wanted hb hr8, obs]
  rw [show nuF P n r 9 = (if tb (P.1 3) r = true then 1 else 0) from rfl]
  cases tb (P.1 3) r <;> rfl
theorem a_num10 (hb : b ≤ 125) {P : PV} {n r : Nat} (hn8 : n ≤ 8) (h0 : P.1 0 = nI n) (hbl : ∀ i, i < n → P.2 12 i = -1 ∨ ∃ k, k ≤ i ∧ P.2 12 i = nI k) (hr : r < n) : f_X1_numberOf (hp G b P) b (nI r) (nI 10) = some (nuF P n r 10) := by
  have hr8 : r < 8 := by omega
  unfold f_X1_numberOf b_X1_numberOf_98 b_X1_numberOf_126
  rw [if_neg (show ¬ nI 10 = (7 : Int32) from nI_ne (by decide) (by decide) (by decide)), if_neg (show ¬ nI 10 = (8 : Int32) from nI_ne (by decide) (by decide) (by decide)), if_neg (show ¬ nI 10 = (9 : Int32) from nI_ne (by decide) (by decide) (by decide)), if_pos (show nI 10 = (10 : Int32) from rfl), p_R6 hb, obs, p_a6 hb, bd_nI (by omega) (by decide), obs]
  rfl
theorem a_num11 (hb : b ≤ 125) {P : PV} {n r : Nat} (hn8 : n ≤ 8) (h0 : P.1 0 = nI n) (hbl : ∀ i, i < n → P.2 12 i = -1 ∨ ∃ k, k ≤ i ∧ P.2 12 i = nI k) (hr : r < n) : f_X1_numberOf (hp G b P) b (nI r) (nI 11) = some (nuF P n r 11) := by
  have hr8 : r < 8 := by omega
  unfold f_X1_numberOf b_X1_numberOf_98 b_X1_numberOf_126
  rw [if_neg (show ¬ nI 11 = (7 : Int32) from nI_ne (by decide) (by decide) (by decide)), if_neg (show ¬ nI 11 = (8 : Int32) from nI_ne (by decide) (by decide) (by decide)), if_neg (show ¬ nI 11 = (9 : Int32) from nI_ne (by decide) (by decide) (by decide)), if_neg (show ¬ nI 11 = (10 : Int32) from nI_ne (by decide) (by decide) (by decide)), if_pos (show nI 11 = (11 : Int32) from rfl), p_R7 hb, obs, p_a7 hb, bd_nI (by omega) (by decide), obs]
  rfl
theorem a_num12 (hb : b ≤ 125) {P : PV} {n r : Nat} (hn8 : n ≤ 8) (h0 : P.1 0 = nI n) (hbl : ∀ i, i < n → P.2 12 i = -1 ∨ ∃ k, k ≤ i ∧ P.2 12 i = nI k) (hr : r < n) : f_X1_numberOf (hp G b P) b (nI r) (nI 12) = some (nuF P n r 12) := by
  have hr8 : r < 8 := by omega
  unfold f_X1_numberOf b_X1_numberOf_98 b_X1_numberOf_126
  rw [if_neg (show ¬ nI 12 = (7 : Int32) from nI_ne (by decide) (by decide) (by decide)), if_neg (show ¬ nI 12 = (8 : Int32) from nI_ne (by decide) (by decide) (by decide)), if_neg (show ¬ nI 12 = (9 : Int32) from nI_ne (by decide) (by decide) (by decide)), if_neg (show ¬ nI 12 = (10 : Int32) from nI_ne (by decide) (by decide) (by decide)), if_neg (show ¬ nI 12 = (11 : Int32) from nI_ne (by decide) (by decide) (by decide)), if_pos (show nI 12 = (12 : Int32) from rfl), p_v1 hb, a_flag hb hr8, obs]
  rw [show nuF P n r 12 = (if flgR (rowP P r) = true then 1 else 0) from rfl]
  cases flgR (rowP P r) <;> rfl
theorem a_num13 (hb : b ≤ 125) {P : PV} {n r : Nat} (hn8 : n ≤ 8) (h0 : P.1 0 = nI n) (hbl : ∀ i, i < n → P.2 12 i = -1 ∨ ∃ k, k ≤ i ∧ P.2 12 i = nI k) (hr : r < n) : f_X1_numberOf (hp G b P) b (nI r) (nI 13) = some (nuF P n r 13) := by
  have hr8 : r < 8 := by omega
  unfold f_X1_numberOf b_X1_numberOf_98 b_X1_numberOf_126
  rw [if_neg (show ¬ nI 13 = (7 : Int32) from nI_ne (by decide) (by decide) (by decide)), if_neg (show ¬ nI 13 = (8 : Int32) from nI_ne (by decide) (by decide) (by decide)), if_neg (show ¬ nI 13 = (9 : Int32) from nI_ne (by decide) (by decide) (by decide)), if_neg (show ¬ nI 13 = (10 : Int32) from nI_ne (by decide) (by decide) (by decide)), if_neg (show ¬ nI 13 = (11 : Int32) from nI_ne (by decide) (by decide) (by decide)), if_neg (show ¬ nI 13 = (12 : Int32) from nI_ne (by decide) (by decide) (by decide)), if_pos (show nI 13 = (13 : Int32) from rfl), p_R8 hb, obs, p_a8 hb, bd_nI (by omega) (by decide), obs]
  rfl
theorem a_num14 (hb : b ≤ 125) {P : PV} {n r : Nat} (hn8 : n ≤ 8) (h0 : P.1 0 = nI n) (hbl : ∀ i, i < n → P.2 12 i = -1 ∨ ∃ k, k ≤ i ∧ P.2 12 i = nI k) (hr : r < n) : f_X1_numberOf (hp G b P) b (nI r) (nI 14) = some (nuF P n r 14) := by
  have hr8 : r < 8 := by omega
  unfold f_X1_numberOf b_X1_numberOf_98 b_X1_numberOf_126
  rw [if_neg (show ¬ nI 14 = (7 : Int32) from nI_ne (by decide) (by decide) (by decide)), if_neg (show ¬ nI 14 = (8 : Int32) from nI_ne (by decide) (by decide) (by decide)), if_neg (show ¬ nI 14 = (9 : Int32) from nI_ne (by decide) (by decide) (by decide)), if_neg (show ¬ nI 14 = (10 : Int32) from nI_ne (by decide) (by decide) (by decide)), if_neg (show ¬ nI 14 = (11 : Int32) from nI_ne (by decide) (by decide) (by decide)), if_neg (show ¬ nI 14 = (12 : Int32) from nI_ne (by decide) (by decide) (by decide)), if_neg (show ¬ nI 14 = (13 : Int32) from nI_ne (by decide) (by decide) (by decide)), if_pos (show nI 14 = (14 : Int32) from rfl), p_R9 hb, obs, p_a9 hb, bd_nI (by omega) (by decide), obs]
  rfl
theorem a_num15 (hb : b ≤ 125) {P : PV} {n r : Nat} (hn8 : n ≤ 8) (h0 : P.1 0 = nI n) (hbl : ∀ i, i < n → P.2 12 i = -1 ∨ ∃ k, k ≤ i ∧ P.2 12 i = nI k) (hr : r < n) : f_X1_numberOf (hp G b P) b (nI r) (nI 15) = some (nuF P n r 15) := by
  have hr8 : r < 8 := by omega
  unfold f_X1_numberOf b_X1_numberOf_98 b_X1_numberOf_126
  rw [if_neg (show ¬ nI 15 = (7 : Int32) from nI_ne (by decide) (by decide) (by decide)), if_neg (show ¬ nI 15 = (8 : Int32) from nI_ne (by decide) (by decide) (by decide)), if_neg (show ¬ nI 15 = (9 : Int32) from nI_ne (by decide) (by decide) (by decide)), if_neg (show ¬ nI 15 = (10 : Int32) from nI_ne (by decide) (by decide) (by decide)), if_neg (show ¬ nI 15 = (11 : Int32) from nI_ne (by decide) (by decide) (by decide)), if_neg (show ¬ nI 15 = (12 : Int32) from nI_ne (by decide) (by decide) (by decide)), if_neg (show ¬ nI 15 = (13 : Int32) from nI_ne (by decide) (by decide) (by decide)), if_neg (show ¬ nI 15 = (14 : Int32) from nI_ne (by decide) (by decide) (by decide)), if_pos (show nI 15 = (15 : Int32) from rfl), p_R10 hb, obs, p_a10 hb, bd_nI (by omega) (by decide), obs]
  rfl
theorem a_num16 (hb : b ≤ 125) {P : PV} {n r : Nat} (hn8 : n ≤ 8) (h0 : P.1 0 = nI n) (hbl : ∀ i, i < n → P.2 12 i = -1 ∨ ∃ k, k ≤ i ∧ P.2 12 i = nI k) (hr : r < n) : f_X1_numberOf (hp G b P) b (nI r) (nI 16) = some (nuF P n r 16) := by
  have hr8 : r < 8 := by omega
  unfold f_X1_numberOf b_X1_numberOf_98 b_X1_numberOf_126
  rw [if_neg (show ¬ nI 16 = (7 : Int32) from nI_ne (by decide) (by decide) (by decide)), if_neg (show ¬ nI 16 = (8 : Int32) from nI_ne (by decide) (by decide) (by decide)), if_neg (show ¬ nI 16 = (9 : Int32) from nI_ne (by decide) (by decide) (by decide)), if_neg (show ¬ nI 16 = (10 : Int32) from nI_ne (by decide) (by decide) (by decide)), if_neg (show ¬ nI 16 = (11 : Int32) from nI_ne (by decide) (by decide) (by decide)), if_neg (show ¬ nI 16 = (12 : Int32) from nI_ne (by decide) (by decide) (by decide)), if_neg (show ¬ nI 16 = (13 : Int32) from nI_ne (by decide) (by decide) (by decide)), if_neg (show ¬ nI 16 = (14 : Int32) from nI_ne (by decide) (by decide) (by decide)), if_neg (show ¬ nI 16 = (15 : Int32) from nI_ne (by decide) (by decide) (by decide)), if_pos (show nI 16 = (16 : Int32) from rfl), p_R11 hb, obs, p_a11 hb, bd_nI (by omega) (by decide), obs]
  rfl
theorem a_num17 (hb : b ≤ 125) {P : PV} {n r : Nat} (hn8 : n ≤ 8) (h0 : P.1 0 = nI n) (hbl : ∀ i, i < n → P.2 12 i = -1 ∨ ∃ k, k ≤ i ∧ P.2 12 i = nI k) (hr : r < n) : f_X1_numberOf (hp G b P) b (nI r) (nI 17) = some (nuF P n r 17) := by
  have hr8 : r < 8 := by omega
  unfold f_X1_numberOf b_X1_numberOf_98 b_X1_numberOf_126
  rw [if_neg (show ¬ nI 17 = (7 : Int32) from nI_ne (by decide) (by decide) (by decide)), if_neg (show ¬ nI 17 = (8 : Int32) from nI_ne (by decide) (by decide) (by decide)), if_neg (show ¬ nI 17 = (9 : Int32) from nI_ne (by decide) (by decide) (by decide)), if_neg (show ¬ nI 17 = (10 : Int32) from nI_ne (by decide) (by decide) (by decide)), if_neg (show ¬ nI 17 = (11 : Int32) from nI_ne (by decide) (by decide) (by decide)), if_neg (show ¬ nI 17 = (12 : Int32) from nI_ne (by decide) (by decide) (by decide)), if_neg (show ¬ nI 17 = (13 : Int32) from nI_ne (by decide) (by decide) (by decide)), if_neg (show ¬ nI 17 = (14 : Int32) from nI_ne (by decide) (by decide) (by decide)), if_neg (show ¬ nI 17 = (15 : Int32) from nI_ne (by decide) (by decide) (by decide)), if_neg (show ¬ nI 17 = (16 : Int32) from nI_ne (by decide) (by decide) (by decide)), if_pos (show nI 17 = (17 : Int32) from rfl), p_R12 hb, obs, p_a12 hb, bd_nI (by omega) (by decide), obs]
  rfl
theorem a_num18 (hb : b ≤ 125) {P : PV} {n r : Nat} (hn8 : n ≤ 8) (h0 : P.1 0 = nI n) (hbl : ∀ i, i < n → P.2 12 i = -1 ∨ ∃ k, k ≤ i ∧ P.2 12 i = nI k) (hr : r < n) : f_X1_numberOf (hp G b P) b (nI r) (nI 18) = some (nuF P n r 18) := by
  have hr8 : r < 8 := by omega
  unfold f_X1_numberOf b_X1_numberOf_98 b_X1_numberOf_126
  rw [if_neg (show ¬ nI 18 = (7 : Int32) from nI_ne (by decide) (by decide) (by decide)), if_neg (show ¬ nI 18 = (8 : Int32) from nI_ne (by decide) (by decide) (by decide)), if_neg (show ¬ nI 18 = (9 : Int32) from nI_ne (by decide) (by decide) (by decide)), if_neg (show ¬ nI 18 = (10 : Int32) from nI_ne (by decide) (by decide) (by decide)), if_neg (show ¬ nI 18 = (11 : Int32) from nI_ne (by decide) (by decide) (by decide)), if_neg (show ¬ nI 18 = (12 : Int32) from nI_ne (by decide) (by decide) (by decide)), if_neg (show ¬ nI 18 = (13 : Int32) from nI_ne (by decide) (by decide) (by decide)), if_neg (show ¬ nI 18 = (14 : Int32) from nI_ne (by decide) (by decide) (by decide)), if_neg (show ¬ nI 18 = (15 : Int32) from nI_ne (by decide) (by decide) (by decide)), if_neg (show ¬ nI 18 = (16 : Int32) from nI_ne (by decide) (by decide) (by decide)), if_neg (show ¬ nI 18 = (17 : Int32) from nI_ne (by decide) (by decide) (by decide)), if_pos (show nI 18 = (18 : Int32) from rfl), p_v1 hb, a_blame hb hn8 hbl hr, obs, nu18]
theorem a_number (hb : b ≤ 125) {P : PV} {n r w : Nat} (hn8 : n ≤ 8) (h0 : P.1 0 = nI n) (hbl : ∀ i, i < n → P.2 12 i = -1 ∨ ∃ k, k ≤ i ∧ P.2 12 i = nI k) (hr : r < n) (hw : w < 19) : f_X1_numberOf (hp G b P) b (nI r) (nI w) = some (nuF P n r w) := by
  match w, hw with
  | 0, _ => exact a_num0 hb hn8 h0 hbl hr
  | 1, _ => exact a_num1 hb hn8 h0 hbl hr
  | 2, _ => exact a_num2 hb hn8 h0 hbl hr
  | 3, _ => exact a_num3 hb hn8 h0 hbl hr
  | 4, _ => exact a_num4 hb hn8 h0 hbl hr
  | 5, _ => exact a_num5 hb hn8 h0 hbl hr
  | 6, _ => exact a_num6 hb hn8 h0 hbl hr
  | 7, _ => exact a_num7 hb hn8 h0 hbl hr
  | 8, _ => exact a_num8 hb hn8 h0 hbl hr
  | 9, _ => exact a_num9 hb hn8 h0 hbl hr
  | 10, _ => exact a_num10 hb hn8 h0 hbl hr
  | 11, _ => exact a_num11 hb hn8 h0 hbl hr
  | 12, _ => exact a_num12 hb hn8 h0 hbl hr
  | 13, _ => exact a_num13 hb hn8 h0 hbl hr
  | 14, _ => exact a_num14 hb hn8 h0 hbl hr
  | 15, _ => exact a_num15 hb hn8 h0 hbl hr
  | 16, _ => exact a_num16 hb hn8 h0 hbl hr
  | 17, _ => exact a_num17 hb hn8 h0 hbl hr
  | 18, _ => exact a_num18 hb hn8 h0 hbl hr
  | w + 19, hw => omega

theorem z_num0 (hb : b ≤ 134) {P : PV} {M : MV} {n r : Nat} (h : RZ n P (M.2 1)) (hr : r < n) : f_X4_railNow (hm G b M) b (nI r) (nI 0) = some (nuF P n r 0) := by
  obtain ⟨hn8, h0, z0, z1, z2, hrow, hwn, hl, hww, hok⟩ := h
  have hr8 : r < 8 := by omega
  have er := hrow r hr
  unfold f_X4_railNow b_X4_railNow_103
  rw [if_neg (show ¬ nI 0 = (8 : Int32) from nI_ne (by decide) (by decide) (by decide)), if_neg (show ¬ nI 0 = (9 : Int32) from nI_ne (by decide) (by decide) (by decide)), if_neg (show ¬ nI 0 = (10 : Int32) from nI_ne (by decide) (by decide) (by decide)), if_neg (show ¬ nI 0 = (11 : Int32) from nI_ne (by decide) (by decide) (by decide)), if_neg (show ¬ nI 0 = (12 : Int32) from nI_ne (by decide) (by decide) (by decide)), if_neg (show ¬ nI 0 = (13 : Int32) from nI_ne (by decide) (by decide) (by decide)), if_neg (show ¬ nI 0 = (14 : Int32) from nI_ne (by decide) (by decide) (by decide)), if_neg (show ¬ nI 0 = (15 : Int32) from nI_ne (by decide) (by decide) (by decide)), if_neg (show ¬ nI 0 = (16 : Int32) from nI_ne (by decide) (by decide) (by decide)), if_neg (show ¬ nI 0 = (17 : Int32) from nI_ne (by decide) (by decide) (by decide)), if_neg (show ¬ nI 0 = (18 : Int32) from nI_ne (by decide) (by decide) (by decide)), show nI 0 = (0 : Int32) from rfl, m_v hb, m_of0 hb hr8, obs, ← er]
  rfl
theorem z_num1 (hb : b ≤ 134) {P : PV} {M : MV} {n r : Nat} (h : RZ n P (M.2 1)) (hr : r < n) : f_X4_railNow (hm G b M) b (nI r) (nI 1) = some (nuF P n r 1) := by
  obtain ⟨hn8, h0, z0, z1, z2, hrow, hwn, hl, hww, hok⟩ := h
  have hr8 : r < 8 := by omega
  have er := hrow r hr
  unfold f_X4_railNow b_X4_railNow_103
  rw [if_neg (show ¬ nI 1 = (8 : Int32) from nI_ne (by decide) (by decide) (by decide)), if_neg (show ¬ nI 1 = (9 : Int32) from nI_ne (by decide) (by decide) (by decide)), if_neg (show ¬ nI 1 = (10 : Int32) from nI_ne (by decide) (by decide) (by decide)), if_neg (show ¬ nI 1 = (11 : Int32) from nI_ne (by decide) (by decide) (by decide)), if_neg (show ¬ nI 1 = (12 : Int32) from nI_ne (by decide) (by decide) (by decide)), if_neg (show ¬ nI 1 = (13 : Int32) from nI_ne (by decide) (by decide) (by decide)), if_neg (show ¬ nI 1 = (14 : Int32) from nI_ne (by decide) (by decide) (by decide)), if_neg (show ¬ nI 1 = (15 : Int32) from nI_ne (by decide) (by decide) (by decide)), if_neg (show ¬ nI 1 = (16 : Int32) from nI_ne (by decide) (by decide) (by decide)), if_neg (show ¬ nI 1 = (17 : Int32) from nI_ne (by decide) (by decide) (by decide)), if_neg (show ¬ nI 1 = (18 : Int32) from nI_ne (by decide) (by decide) (by decide)), show nI 1 = (1 : Int32) from rfl, m_v hb, m_of1 hb hr8, obs, ← er]
  rfl
theorem z_num2 (hb : b ≤ 134) {P : PV} {M : MV} {n r : Nat} (h : RZ n P (M.2 1)) (hr : r < n) : f_X4_railNow (hm G b M) b (nI r) (nI 2) = some (nuF P n r 2) := by
  obtain ⟨hn8, h0, z0, z1, z2, hrow, hwn, hl, hww, hok⟩ := h
  have hr8 : r < 8 := by omega
  have er := hrow r hr
  unfold f_X4_railNow b_X4_railNow_103
  rw [if_neg (show ¬ nI 2 = (8 : Int32) from nI_ne (by decide) (by decide) (by decide)), if_neg (show ¬ nI 2 = (9 : Int32) from nI_ne (by decide) (by decide) (by decide)), if_neg (show ¬ nI 2 = (10 : Int32) from nI_ne (by decide) (by decide) (by decide)), if_neg (show ¬ nI 2 = (11 : Int32) from nI_ne (by decide) (by decide) (by decide)), if_neg (show ¬ nI 2 = (12 : Int32) from nI_ne (by decide) (by decide) (by decide)), if_neg (show ¬ nI 2 = (13 : Int32) from nI_ne (by decide) (by decide) (by decide)), if_neg (show ¬ nI 2 = (14 : Int32) from nI_ne (by decide) (by decide) (by decide)), if_neg (show ¬ nI 2 = (15 : Int32) from nI_ne (by decide) (by decide) (by decide)), if_neg (show ¬ nI 2 = (16 : Int32) from nI_ne (by decide) (by decide) (by decide)), if_neg (show ¬ nI 2 = (17 : Int32) from nI_ne (by decide) (by decide) (by decide)), if_neg (show ¬ nI 2 = (18 : Int32) from nI_ne (by decide) (by decide) (by decide)), show nI 2 = (2 : Int32) from rfl, m_v hb, m_of2 hb hr8, obs, ← er]
  rfl
theorem z_num3 (hb : b ≤ 134) {P : PV} {M : MV} {n r : Nat} (h : RZ n P (M.2 1)) (hr : r < n) : f_X4_railNow (hm G b M) b (nI r) (nI 3) = some (nuF P n r 3) := by
  obtain ⟨hn8, h0, z0, z1, z2, hrow, hwn, hl, hww, hok⟩ := h
  have hr8 : r < 8 := by omega
  have er := hrow r hr
  unfold f_X4_railNow b_X4_railNow_103
  rw [if_neg (show ¬ nI 3 = (8 : Int32) from nI_ne (by decide) (by decide) (by decide)), if_neg (show ¬ nI 3 = (9 : Int32) from nI_ne (by decide) (by decide) (by decide)), if_neg (show ¬ nI 3 = (10 : Int32) from nI_ne (by decide) (by decide) (by decide)), if_neg (show ¬ nI 3 = (11 : Int32) from nI_ne (by decide) (by decide) (by decide)), if_neg (show ¬ nI 3 = (12 : Int32) from nI_ne (by decide) (by decide) (by decide)), if_neg (show ¬ nI 3 = (13 : Int32) from nI_ne (by decide) (by decide) (by decide)), if_neg (show ¬ nI 3 = (14 : Int32) from nI_ne (by decide) (by decide) (by decide)), if_neg (show ¬ nI 3 = (15 : Int32) from nI_ne (by decide) (by decide) (by decide)), if_neg (show ¬ nI 3 = (16 : Int32) from nI_ne (by decide) (by decide) (by decide)), if_neg (show ¬ nI 3 = (17 : Int32) from nI_ne (by decide) (by decide) (by decide)), if_neg (show ¬ nI 3 = (18 : Int32) from nI_ne (by decide) (by decide) (by decide)), show nI 3 = (3 : Int32) from rfl, m_v hb, m_of3 hb hr8, obs, ← er]
  rfl
theorem z_num4 (hb : b ≤ 134) {P : PV} {M : MV} {n r : Nat} (h : RZ n P (M.2 1)) (hr : r < n) : f_X4_railNow (hm G b M) b (nI r) (nI 4) = some (nuF P n r 4) := by
  obtain ⟨hn8, h0, z0, z1, z2, hrow, hwn, hl, hww, hok⟩ := h
  have hr8 : r < 8 := by omega
  have er := hrow r hr
  unfold f_X4_railNow b_X4_railNow_103
  rw [if_neg (show ¬ nI 4 = (8 : Int32) from nI_ne (by decide) (by decide) (by decide)), if_neg (show ¬ nI 4 = (9 : Int32) from nI_ne (by decide) (by decide) (by decide)), if_neg (show ¬ nI 4 = (10 : Int32) from nI_ne (by decide) (by decide) (by decide)), if_neg (show ¬ nI 4 = (11 : Int32) from nI_ne (by decide) (by decide) (by decide)), if_neg (show ¬ nI 4 = (12 : Int32) from nI_ne (by decide) (by decide) (by decide)), if_neg (show ¬ nI 4 = (13 : Int32) from nI_ne (by decide) (by decide) (by decide)), if_neg (show ¬ nI 4 = (14 : Int32) from nI_ne (by decide) (by decide) (by decide)), if_neg (show ¬ nI 4 = (15 : Int32) from nI_ne (by decide) (by decide) (by decide)), if_neg (show ¬ nI 4 = (16 : Int32) from nI_ne (by decide) (by decide) (by decide)), if_neg (show ¬ nI 4 = (17 : Int32) from nI_ne (by decide) (by decide) (by decide)), if_neg (show ¬ nI 4 = (18 : Int32) from nI_ne (by decide) (by decide) (by decide)), show nI 4 = (4 : Int32) from rfl, m_v hb, m_of4 hb hr8, obs, ← er]
  rfl
theorem z_num5 (hb : b ≤ 134) {P : PV} {M : MV} {n r : Nat} (h : RZ n P (M.2 1)) (hr : r < n) : f_X4_railNow (hm G b M) b (nI r) (nI 5) = some (nuF P n r 5) := by
  obtain ⟨hn8, h0, z0, z1, z2, hrow, hwn, hl, hww, hok⟩ := h
  have hr8 : r < 8 := by omega
  have er := hrow r hr
  unfold f_X4_railNow b_X4_railNow_103
  rw [if_neg (show ¬ nI 5 = (8 : Int32) from nI_ne (by decide) (by decide) (by decide)), if_neg (show ¬ nI 5 = (9 : Int32) from nI_ne (by decide) (by decide) (by decide)), if_neg (show ¬ nI 5 = (10 : Int32) from nI_ne (by decide) (by decide) (by decide)), if_neg (show ¬ nI 5 = (11 : Int32) from nI_ne (by decide) (by decide) (by decide)), if_neg (show ¬ nI 5 = (12 : Int32) from nI_ne (by decide) (by decide) (by decide)), if_neg (show ¬ nI 5 = (13 : Int32) from nI_ne (by decide) (by decide) (by decide)), if_neg (show ¬ nI 5 = (14 : Int32) from nI_ne (by decide) (by decide) (by decide)), if_neg (show ¬ nI 5 = (15 : Int32) from nI_ne (by decide) (by decide) (by decide)), if_neg (show ¬ nI 5 = (16 : Int32) from nI_ne (by decide) (by decide) (by decide)), if_neg (show ¬ nI 5 = (17 : Int32) from nI_ne (by decide) (by decide) (by decide)), if_neg (show ¬ nI 5 = (18 : Int32) from nI_ne (by decide) (by decide) (by decide)), show nI 5 = (5 : Int32) from rfl, m_v hb, m_of5 hb hr8, obs, ← er]
  rfl
theorem z_num6 (hb : b ≤ 134) {P : PV} {M : MV} {n r : Nat} (h : RZ n P (M.2 1)) (hr : r < n) : f_X4_railNow (hm G b M) b (nI r) (nI 6) = some (nuF P n r 6) := by
  obtain ⟨hn8, h0, z0, z1, z2, hrow, hwn, hl, hww, hok⟩ := h
  have hr8 : r < 8 := by omega
  have er := hrow r hr
  unfold f_X4_railNow b_X4_railNow_103
  rw [if_neg (show ¬ nI 6 = (8 : Int32) from nI_ne (by decide) (by decide) (by decide)), if_neg (show ¬ nI 6 = (9 : Int32) from nI_ne (by decide) (by decide) (by decide)), if_neg (show ¬ nI 6 = (10 : Int32) from nI_ne (by decide) (by decide) (by decide)), if_neg (show ¬ nI 6 = (11 : Int32) from nI_ne (by decide) (by decide) (by decide)), if_neg (show ¬ nI 6 = (12 : Int32) from nI_ne (by decide) (by decide) (by decide)), if_neg (show ¬ nI 6 = (13 : Int32) from nI_ne (by decide) (by decide) (by decide)), if_neg (show ¬ nI 6 = (14 : Int32) from nI_ne (by decide) (by decide) (by decide)), if_neg (show ¬ nI 6 = (15 : Int32) from nI_ne (by decide) (by decide) (by decide)), if_neg (show ¬ nI 6 = (16 : Int32) from nI_ne (by decide) (by decide) (by decide)), if_neg (show ¬ nI 6 = (17 : Int32) from nI_ne (by decide) (by decide) (by decide)), if_neg (show ¬ nI 6 = (18 : Int32) from nI_ne (by decide) (by decide) (by decide)), show nI 6 = (6 : Int32) from rfl, m_v hb, m_of6 hb hr8, obs, ← er]
  rfl
theorem z_num7 (hb : b ≤ 134) {P : PV} {M : MV} {n r : Nat} (h : RZ n P (M.2 1)) (hr : r < n) : f_X4_railNow (hm G b M) b (nI r) (nI 7) = some (nuF P n r 7) := by
  obtain ⟨hn8, h0, z0, z1, z2, hrow, hwn, hl, hww, hok⟩ := h
  have hr8 : r < 8 := by omega
  have er := hrow r hr
  unfold f_X4_railNow b_X4_railNow_103
  rw [if_neg (show ¬ nI 7 = (8 : Int32) from nI_ne (by decide) (by decide) (by decide)), if_neg (show ¬ nI 7 = (9 : Int32) from nI_ne (by decide) (by decide) (by decide)), if_neg (show ¬ nI 7 = (10 : Int32) from nI_ne (by decide) (by decide) (by decide)), if_neg (show ¬ nI 7 = (11 : Int32) from nI_ne (by decide) (by decide) (by decide)), if_neg (show ¬ nI 7 = (12 : Int32) from nI_ne (by decide) (by decide) (by decide)), if_neg (show ¬ nI 7 = (13 : Int32) from nI_ne (by decide) (by decide) (by decide)), if_neg (show ¬ nI 7 = (14 : Int32) from nI_ne (by decide) (by decide) (by decide)), if_neg (show ¬ nI 7 = (15 : Int32) from nI_ne (by decide) (by decide) (by decide)), if_neg (show ¬ nI 7 = (16 : Int32) from nI_ne (by decide) (by decide) (by decide)), if_neg (show ¬ nI 7 = (17 : Int32) from nI_ne (by decide) (by decide) (by decide)), if_neg (show ¬ nI 7 = (18 : Int32) from nI_ne (by decide) (by decide) (by decide)), show nI 7 = (7 : Int32) from rfl, m_v hb, m_of7 hb hr8, obs, ← er]
  rfl
theorem z_num8 (hb : b ≤ 134) {P : PV} {M : MV} {n r : Nat} (h : RZ n P (M.2 1)) (hr : r < n) : f_X4_railNow (hm G b M) b (nI r) (nI 8) = some (nuF P n r 8) := by
  obtain ⟨hn8, h0, z0, z1, z2, hrow, hwn, hl, hww, hok⟩ := h
  have hr8 : r < 8 := by omega
  have er := hrow r hr
  unfold f_X4_railNow b_X4_railNow_103
  rw [if_pos (show nI 8 = (8 : Int32) from rfl), m_v hb, z_foll hb z0 hn8 hr (nd := P.2 5) (fun j hj => by
    have e := congrFun (hrow j hj) 7
    rw [rz_in (by decide)] at e
    exact e.symm) (fun j hj => (hok j hj).2.2.2.2.1), obs]
  rfl
theorem z_num9 (hb : b ≤ 134) {P : PV} {M : MV} {n r : Nat} (h : RZ n P (M.2 1)) (hr : r < n) : f_X4_railNow (hm G b M) b (nI r) (nI 9) = some (nuF P n r 9) := by
  obtain ⟨hn8, h0, z0, z1, z2, hrow, hwn, hl, hww, hok⟩ := h
  have hr8 : r < 8 := by omega
  have er := hrow r hr
  unfold f_X4_railNow b_X4_railNow_103
  rw [if_neg (show ¬ nI 9 = (8 : Int32) from nI_ne (by decide) (by decide) (by decide)), if_pos (show nI 9 = (9 : Int32) from rfl), m_v hb, m_of8 hb hr8, obs, hwn r hr]
  rfl
theorem z_num10 (hb : b ≤ 134) {P : PV} {M : MV} {n r : Nat} (h : RZ n P (M.2 1)) (hr : r < n) : f_X4_railNow (hm G b M) b (nI r) (nI 10) = some (nuF P n r 10) := by
  obtain ⟨hn8, h0, z0, z1, z2, hrow, hwn, hl, hww, hok⟩ := h
  have hr8 : r < 8 := by omega
  have er := hrow r hr
  unfold f_X4_railNow b_X4_railNow_103
  rw [if_neg (show ¬ nI 10 = (8 : Int32) from nI_ne (by decide) (by decide) (by decide)), if_neg (show ¬ nI 10 = (9 : Int32) from nI_ne (by decide) (by decide) (by decide)), if_pos (show nI 10 = (10 : Int32) from rfl), m_v hb, m_of9 hb hr8, obs, ← er]
  rfl
theorem z_num11 (hb : b ≤ 134) {P : PV} {M : MV} {n r : Nat} (h : RZ n P (M.2 1)) (hr : r < n) : f_X4_railNow (hm G b M) b (nI r) (nI 11) = some (nuF P n r 11) := by
  obtain ⟨hn8, h0, z0, z1, z2, hrow, hwn, hl, hww, hok⟩ := h
  have hr8 : r < 8 := by omega
  have er := hrow r hr
  unfold f_X4_railNow b_X4_railNow_103
  rw [if_neg (show ¬ nI 11 = (8 : Int32) from nI_ne (by decide) (by decide) (by decide)), if_neg (show ¬ nI 11 = (9 : Int32) from nI_ne (by decide) (by decide) (by decide)), if_neg (show ¬ nI 11 = (10 : Int32) from nI_ne (by decide) (by decide) (by decide)), if_pos (show nI 11 = (11 : Int32) from rfl), m_v hb, m_of10 hb hr8, obs, ← er]
  rfl
theorem z_num12 (hb : b ≤ 134) {P : PV} {M : MV} {n r : Nat} (h : RZ n P (M.2 1)) (hr : r < n) : f_X4_railNow (hm G b M) b (nI r) (nI 12) = some (nuF P n r 12) := by
  obtain ⟨hn8, h0, z0, z1, z2, hrow, hwn, hl, hww, hok⟩ := h
  have hr8 : r < 8 := by omega
  have er := hrow r hr
  unfold f_X4_railNow b_X4_railNow_103
  rw [if_neg (show ¬ nI 12 = (8 : Int32) from nI_ne (by decide) (by decide) (by decide)), if_neg (show ¬ nI 12 = (9 : Int32) from nI_ne (by decide) (by decide) (by decide)), if_neg (show ¬ nI 12 = (10 : Int32) from nI_ne (by decide) (by decide) (by decide)), if_neg (show ¬ nI 12 = (11 : Int32) from nI_ne (by decide) (by decide) (by decide)), if_pos (show nI 12 = (12 : Int32) from rfl), m_v hb, z_flag hb hr8, obs, ← er]
  rw [show nuF P n r 12 = (if flgR (rowP P r) = true then 1 else 0) from rfl]
  cases flgR (rowP P r) <;> rfl
theorem z_num13 (hb : b ≤ 134) {P : PV} {M : MV} {n r : Nat} (h : RZ n P (M.2 1)) (hr : r < n) : f_X4_railNow (hm G b M) b (nI r) (nI 13) = some (nuF P n r 13) := by
  obtain ⟨hn8, h0, z0, z1, z2, hrow, hwn, hl, hww, hok⟩ := h
  have hr8 : r < 8 := by omega
  have er := hrow r hr
  unfold f_X4_railNow b_X4_railNow_103
  rw [if_neg (show ¬ nI 13 = (8 : Int32) from nI_ne (by decide) (by decide) (by decide)), if_neg (show ¬ nI 13 = (9 : Int32) from nI_ne (by decide) (by decide) (by decide)), if_neg (show ¬ nI 13 = (10 : Int32) from nI_ne (by decide) (by decide) (by decide)), if_neg (show ¬ nI 13 = (11 : Int32) from nI_ne (by decide) (by decide) (by decide)), if_neg (show ¬ nI 13 = (12 : Int32) from nI_ne (by decide) (by decide) (by decide)), if_pos (show nI 13 = (13 : Int32) from rfl), m_v hb, m_of11 hb hr8, obs, ← er]
  rfl
theorem z_num14 (hb : b ≤ 134) {P : PV} {M : MV} {n r : Nat} (h : RZ n P (M.2 1)) (hr : r < n) : f_X4_railNow (hm G b M) b (nI r) (nI 14) = some (nuF P n r 14) := by
  obtain ⟨hn8, h0, z0, z1, z2, hrow, hwn, hl, hww, hok⟩ := h
  have hr8 : r < 8 := by omega
  have er := hrow r hr
  unfold f_X4_railNow b_X4_railNow_103
  rw [if_neg (show ¬ nI 14 = (8 : Int32) from nI_ne (by decide) (by decide) (by decide)), if_neg (show ¬ nI 14 = (9 : Int32) from nI_ne (by decide) (by decide) (by decide)), if_neg (show ¬ nI 14 = (10 : Int32) from nI_ne (by decide) (by decide) (by decide)), if_neg (show ¬ nI 14 = (11 : Int32) from nI_ne (by decide) (by decide) (by decide)), if_neg (show ¬ nI 14 = (12 : Int32) from nI_ne (by decide) (by decide) (by decide)), if_neg (show ¬ nI 14 = (13 : Int32) from nI_ne (by decide) (by decide) (by decide)), if_pos (show nI 14 = (14 : Int32) from rfl), m_v hb, m_of12 hb hr8, obs, ← er]
  rfl
theorem z_num15 (hb : b ≤ 134) {P : PV} {M : MV} {n r : Nat} (h : RZ n P (M.2 1)) (hr : r < n) : f_X4_railNow (hm G b M) b (nI r) (nI 15) = some (nuF P n r 15) := by
  obtain ⟨hn8, h0, z0, z1, z2, hrow, hwn, hl, hww, hok⟩ := h
  have hr8 : r < 8 := by omega
  have er := hrow r hr
  unfold f_X4_railNow b_X4_railNow_103
  rw [if_neg (show ¬ nI 15 = (8 : Int32) from nI_ne (by decide) (by decide) (by decide)), if_neg (show ¬ nI 15 = (9 : Int32) from nI_ne (by decide) (by decide) (by decide)), if_neg (show ¬ nI 15 = (10 : Int32) from nI_ne (by decide) (by decide) (by decide)), if_neg (show ¬ nI 15 = (11 : Int32) from nI_ne (by decide) (by decide) (by decide)), if_neg (show ¬ nI 15 = (12 : Int32) from nI_ne (by decide) (by decide) (by decide)), if_neg (show ¬ nI 15 = (13 : Int32) from nI_ne (by decide) (by decide) (by decide)), if_neg (show ¬ nI 15 = (14 : Int32) from nI_ne (by decide) (by decide) (by decide)), if_pos (show nI 15 = (15 : Int32) from rfl), m_v hb, m_of13 hb hr8, obs, ← er]
  rfl
theorem z_num16 (hb : b ≤ 134) {P : PV} {M : MV} {n r : Nat} (h : RZ n P (M.2 1)) (hr : r < n) : f_X4_railNow (hm G b M) b (nI r) (nI 16) = some (nuF P n r 16) := by
  obtain ⟨hn8, h0, z0, z1, z2, hrow, hwn, hl, hww, hok⟩ := h
  have hr8 : r < 8 := by omega
  have er := hrow r hr
  unfold f_X4_railNow b_X4_railNow_103
  rw [if_neg (show ¬ nI 16 = (8 : Int32) from nI_ne (by decide) (by decide) (by decide)), if_neg (show ¬ nI 16 = (9 : Int32) from nI_ne (by decide) (by decide) (by decide)), if_neg (show ¬ nI 16 = (10 : Int32) from nI_ne (by decide) (by decide) (by decide)), if_neg (show ¬ nI 16 = (11 : Int32) from nI_ne (by decide) (by decide) (by decide)), if_neg (show ¬ nI 16 = (12 : Int32) from nI_ne (by decide) (by decide) (by decide)), if_neg (show ¬ nI 16 = (13 : Int32) from nI_ne (by decide) (by decide) (by decide)), if_neg (show ¬ nI 16 = (14 : Int32) from nI_ne (by decide) (by decide) (by decide)), if_neg (show ¬ nI 16 = (15 : Int32) from nI_ne (by decide) (by decide) (by decide)), if_pos (show nI 16 = (16 : Int32) from rfl), m_v hb, m_of14 hb hr8, obs, ← er]
  rfl
theorem z_num17 (hb : b ≤ 134) {P : PV} {M : MV} {n r : Nat} (h : RZ n P (M.2 1)) (hr : r < n) : f_X4_railNow (hm G b M) b (nI r) (nI 17) = some (nuF P n r 17) := by
  obtain ⟨hn8, h0, z0, z1, z2, hrow, hwn, hl, hww, hok⟩ := h
  have hr8 : r < 8 := by omega
  have er := hrow r hr
  unfold f_X4_railNow b_X4_railNow_103
  rw [if_neg (show ¬ nI 17 = (8 : Int32) from nI_ne (by decide) (by decide) (by decide)), if_neg (show ¬ nI 17 = (9 : Int32) from nI_ne (by decide) (by decide) (by decide)), if_neg (show ¬ nI 17 = (10 : Int32) from nI_ne (by decide) (by decide) (by decide)), if_neg (show ¬ nI 17 = (11 : Int32) from nI_ne (by decide) (by decide) (by decide)), if_neg (show ¬ nI 17 = (12 : Int32) from nI_ne (by decide) (by decide) (by decide)), if_neg (show ¬ nI 17 = (13 : Int32) from nI_ne (by decide) (by decide) (by decide)), if_neg (show ¬ nI 17 = (14 : Int32) from nI_ne (by decide) (by decide) (by decide)), if_neg (show ¬ nI 17 = (15 : Int32) from nI_ne (by decide) (by decide) (by decide)), if_neg (show ¬ nI 17 = (16 : Int32) from nI_ne (by decide) (by decide) (by decide)), if_pos (show nI 17 = (17 : Int32) from rfl), m_v hb, m_of15 hb hr8, obs, ← er]
  rfl
theorem z_num18 (hb : b ≤ 134) {P : PV} {M : MV} {n r : Nat} (h : RZ n P (M.2 1)) (hr : r < n) : f_X4_railNow (hm G b M) b (nI r) (nI 18) = some (nuF P n r 18) := by
  obtain ⟨hn8, h0, z0, z1, z2, hrow, hwn, hl, hww, hok⟩ := h
  have hr8 : r < 8 := by omega
  have er := hrow r hr
  unfold f_X4_railNow b_X4_railNow_103
  rw [if_neg (show ¬ nI 18 = (8 : Int32) from nI_ne (by decide) (by decide) (by decide)), if_neg (show ¬ nI 18 = (9 : Int32) from nI_ne (by decide) (by decide) (by decide)), if_neg (show ¬ nI 18 = (10 : Int32) from nI_ne (by decide) (by decide) (by decide)), if_neg (show ¬ nI 18 = (11 : Int32) from nI_ne (by decide) (by decide) (by decide)), if_neg (show ¬ nI 18 = (12 : Int32) from nI_ne (by decide) (by decide) (by decide)), if_neg (show ¬ nI 18 = (13 : Int32) from nI_ne (by decide) (by decide) (by decide)), if_neg (show ¬ nI 18 = (14 : Int32) from nI_ne (by decide) (by decide) (by decide)), if_neg (show ¬ nI 18 = (15 : Int32) from nI_ne (by decide) (by decide) (by decide)), if_neg (show ¬ nI 18 = (16 : Int32) from nI_ne (by decide) (by decide) (by decide)), if_neg (show ¬ nI 18 = (17 : Int32) from nI_ne (by decide) (by decide) (by decide)), if_pos (show nI 18 = (18 : Int32) from rfl), m_v hb, z_blame hb (bl := P.2 12) hn8 (fun i hi => by rw [← hrow i hi]; rfl) (fun i hi => (hok i hi).2.2.2.2.2.2.2.2) hr, obs, nu18]
theorem z_number (hb : b ≤ 134) {P : PV} {M : MV} {n r w : Nat} (h : RZ n P (M.2 1)) (hr : r < n) (hw : w < 19) : f_X4_railNow (hm G b M) b (nI r) (nI w) = some (nuF P n r w) := by
  match w, hw with
  | 0, _ => exact z_num0 hb h hr
  | 1, _ => exact z_num1 hb h hr
  | 2, _ => exact z_num2 hb h hr
  | 3, _ => exact z_num3 hb h hr
  | 4, _ => exact z_num4 hb h hr
  | 5, _ => exact z_num5 hb h hr
  | 6, _ => exact z_num6 hb h hr
  | 7, _ => exact z_num7 hb h hr
  | 8, _ => exact z_num8 hb h hr
  | 9, _ => exact z_num9 hb h hr
  | 10, _ => exact z_num10 hb h hr
  | 11, _ => exact z_num11 hb h hr
  | 12, _ => exact z_num12 hb h hr
  | 13, _ => exact z_num13 hb h hr
  | 14, _ => exact z_num14 hb h hr
  | 15, _ => exact z_num15 hb h hr
  | 16, _ => exact z_num16 hb h hr
  | 17, _ => exact z_num17 hb h hr
  | 18, _ => exact z_num18 hb h hr
  | w + 19, hw => omega
theorem z_rail28 (hb : b ≤ 134) {M : MV} (x k c : Int32) : b_X4_rail_28 (hm G b M) b x k b c = if c ≤ 0 then (f_X4_railNow (hm G b (mS M 0 c)) b x k).bind (fun v => some (v, hm G b (mS M 0 c))) else some (0, hm G b (mS M 0 c)) := by
  unfold b_X4_rail_28 b_X4_rail_48
  simp only [m_P0 hb, m_I0 hb, m_v hb, obs, mS_0]
variable {T : TS}
theorem op_rail {n s : Nat} (h : INV T n s) (x k : Int32) : OKc T (f_L_rail (HT T) 0 x k 140) (fun h => vcall h 4 133 (f_X4_rail h 133 x k)) := by
  have h' := h
  obtain ⟨hs, hS, hM, hσ, hz, ha, hv, hbf⟩ := h'
  have hz' := hz
  obtain ⟨hn8, h0, z0, z1, z2, hrow, hw, hl, hwn, hok⟩ := hz'
  have hb : 133 ≤ 134 := by decide
  unfold f_L_rail
  rw [t_v3]
  rcases rail_cases hn8 x with ⟨r, hr, rfl⟩ | hx
  · have hR := rail_not hn8 hr
    by_cases hk : k < 0 ∨ nI 19 ≤ k
    · have e1 : f_X3_rail (HT T) 0 (nI r) k = some (.inl (0, HT T)) := by
        unfold f_X3_rail b_X3_rail_28
        rw [t_v3, c_isRail h0, obs, if_neg hR, if_neg n10]
        by_cases hk0 : k < 0
        · rw [if_pos hk0]
        · rw [if_neg hk0, if_neg]
          rcases hk with hk | hk
          · exact absurd hk hk0
          · rw [Int32.not_lt]; exact hk
      rw [e1]
      refine OK_no h (c := 2) (by decide) rfl (fun G => ?_)
      have hout : k < 0 ∨ (18 : Int32) < k := out_of (n := 19) (p := 18) (by decide) (by decide) hk rfl
      unfold f_X4_rail
      rw [m_v hb, z_isRail hb z0 hn8, obs, if_neg hR, if_neg n10, z_within, obs, if_pos hout, if_pos rfl, z_rail28 hb, if_neg (by decide)]
    · have hkn : ¬ k < 0 := fun hh => hk (Or.inl hh)
      obtain ⟨p, hp31, rfl⟩ := nI_of hkn
      have hp : p < 19 := by
        have : ¬ nI 19 ≤ nI p := fun hh => hk (Or.inr hh)
        rw [nI_leI (by decide) hp31] at this
        omega
      have hk19 : nI p < 19 := by rw [show (19 : Int32) = nI 19 from rfl, nI_ltI (by omega) (by omega)]; exact hp
      have e1 : f_X3_rail (HT T) 0 (nI r) (nI p) = some (.inr (nuF (T.1.2.2 0) n r p, HT T)) := by
        unfold f_X3_rail
        rw [t_v3, c_isRail h0, obs, if_neg hR, if_neg n10, if_neg hkn, if_pos hk19, t_R0, obs, q_v1, HT0 T, a_number (by decide) hn8 h0 (fun i hi => (hok i hi).2.2.2.2.2.2.2.2) hr hp, obs]
      rw [e1]
      refine OK_see h (a := nuF (T.1.2.2 0) n r p) ?_ (fun G => ?_)
      · rw [obs, Sum.elim_inr, t_sL, obs]
      · have hin : ¬ (nI p < 0 ∨ (18 : Int32) < nI p) := in_of (n := 19) (p := 18) (by decide) rfl hp
        unfold f_X4_rail
        rw [m_v hb, z_isRail hb z0 hn8, obs, if_neg hR, if_neg n10, z_within, obs, if_neg hin, if_neg n10, z_rail28 hb, if_pos (by decide), z_number hb (M := mS T.2.2.1 0 0) hz hr hp, obs]
  · have e1 : f_X3_rail (HT T) 0 x k = some (.inl (2, HT T)) := by
      unfold f_X3_rail
      rw [t_v3, c_isRail h0, obs, if_pos hx, if_pos rfl]
    rw [e1]
    refine OK_no h (c := 1) (by decide) rfl (fun G => ?_)
    unfold f_X4_rail
    rw [m_v hb, z_isRail hb z0 hn8, obs, if_pos hx, if_pos rfl, z_rail28 hb, if_neg (by decide)]
