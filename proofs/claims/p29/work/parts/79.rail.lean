/-! a rail's numbers, on both sides -/
def bitI (r : Nat) : Int32 := (1 : Int32) <<< (nI r &&& 31)
def nuF (P : PV) (n r w : Nat) : Int32 :=
  if w = 8 then foF (P.2 5) n 0 (bitI r) &&& (bitI r ^^^ (-1 : Int32))
  else if w = 9 then (if tb (P.1 3) r = true then 1 else 0)
  else if w = 12 then (if flgR (rowP P r) = true then 1 else 0)
  else if w = 18 then fbO (P.2 12) r
  else if w < 9 then rowP P r w else if w < 12 then rowP P r (w - 1) else rowP P r (w - 2)
theorem nu18 (P : PV) (n r : Nat) : nuF P n r 18 = fbO (P.2 12) r := by
  unfold nuF
  rw [if_neg (by decide), if_neg (by decide), if_neg (by decide), if_pos rfl]
variable {G : GB} {b : Nat}
theorem a_propG (hb : b ≤ 122) {P : PV} {r p : Nat} (hr : r < 8) (hq : p < 7) : f_X1_propertyOf (hp G b P) b (nI r) (nI p) = some (rowP P r p) := by
  unfold f_X1_propertyOf
  rw [p_R4 hb, obs, p_a4 hb, ix7, nI_add, bd_nI (by omega) (by decide), obs, rd_p P r hq]
theorem a_foll (hb : b ≤ 122) {P : PV} {n : Nat} (hn8 : n ≤ 8) (h0 : P.1 0 = nI n) (x : Int32) : f_X1_withFollowers (hp G b P) b x = some (foF (P.2 5) n 0 x) := by
  unfold f_X1_withFollowers
  exact a_follLoop hb h0 hn8 n 0 FU x (by omega) (by rw [FU_eq]; omega)
theorem nI_ne {a c : Nat} (ha : a < 100) (hc : c < 100) (h : a ≠ c) : ¬ nI a = nI c := by
  rw [nI_eq (by omega) (by omega)]
  exact h

theorem a_num0 (hb : b ≤ 122) {P : PV} {n r : Nat} (hn8 : n ≤ 8) (h0 : P.1 0 = nI n) (hbl : ∀ i, i < n → P.2 12 i = -1 ∨ ∃ k, k ≤ i ∧ P.2 12 i = nI k) (hr : r < n) : f_X1_numberOf (hp G b P) b (nI r) (nI 0) = some (nuF P n r 0) := by
  have hr8 : r < 8 := by omega
  unfold f_X1_numberOf b_X1_numberOf_98 b_X1_numberOf_126
  rw [if_neg (show ¬ nI 0 = (7 : Int32) from nI_ne (by decide) (by decide) (by decide)), if_neg (show ¬ nI 0 = (8 : Int32) from nI_ne (by decide) (by decide) (by decide)), if_neg (show ¬ nI 0 = (9 : Int32) from nI_ne (by decide) (by decide) (by decide)), if_neg (show ¬ nI 0 = (10 : Int32) from nI_ne (by decide) (by decide) (by decide)), if_neg (show ¬ nI 0 = (11 : Int32) from nI_ne (by decide) (by decide) (by decide)), if_neg (show ¬ nI 0 = (12 : Int32) from nI_ne (by decide) (by decide) (by decide)), if_neg (show ¬ nI 0 = (13 : Int32) from nI_ne (by decide) (by decide) (by decide)), if_neg (show ¬ nI 0 = (14 : Int32) from nI_ne (by decide) (by decide) (by decide)), if_neg (show ¬ nI 0 = (15 : Int32) from nI_ne (by decide) (by decide) (by decide)), if_neg (show ¬ nI 0 = (16 : Int32) from nI_ne (by decide) (by decide) (by decide)), if_neg (show ¬ nI 0 = (17 : Int32) from nI_ne (by decide) (by decide) (by decide)), if_neg (show ¬ nI 0 = (18 : Int32) from nI_ne (by decide) (by decide) (by decide)), p_v1 hb, a_propG hb hr8 (by decide), obs]
  rfl
theorem a_num1 (hb : b ≤ 122) {P : PV} {n r : Nat} (hn8 : n ≤ 8) (h0 : P.1 0 = nI n) (hbl : ∀ i, i < n → P.2 12 i = -1 ∨ ∃ k, k ≤ i ∧ P.2 12 i = nI k) (hr : r < n) : f_X1_numberOf (hp G b P) b (nI r) (nI 1) = some (nuF P n r 1) := by
  have hr8 : r < 8 := by omega
  unfold f_X1_numberOf b_X1_numberOf_98 b_X1_numberOf_126
  rw [if_neg (show ¬ nI 1 = (7 : Int32) from nI_ne (by decide) (by decide) (by decide)), if_neg (show ¬ nI 1 = (8 : Int32) from nI_ne (by decide) (by decide) (by decide)), if_neg (show ¬ nI 1 = (9 : Int32) from nI_ne (by decide) (by decide) (by decide)), if_neg (show ¬ nI 1 = (10 : Int32) from nI_ne (by decide) (by decide) (by decide)), if_neg (show ¬ nI 1 = (11 : Int32) from nI_ne (by decide) (by decide) (by decide)), if_neg (show ¬ nI 1 = (12 : Int32) from nI_ne (by decide) (by decide) (by decide)), if_neg (show ¬ nI 1 = (13 : Int32) from nI_ne (by decide) (by decide) (by decide)), if_neg (show ¬ nI 1 = (14 : Int32) from nI_ne (by decide) (by decide) (by decide)), if_neg (show ¬ nI 1 = (15 : Int32) from nI_ne (by decide) (by decide) (by decide)), if_neg (show ¬ nI 1 = (16 : Int32) from nI_ne (by decide) (by decide) (by decide)), if_neg (show ¬ nI 1 = (17 : Int32) from nI_ne (by decide) (by decide) (by decide)), if_neg (show ¬ nI 1 = (18 : Int32) from nI_ne (by decide) (by decide) (by decide)), p_v1 hb, a_propG hb hr8 (by decide), obs]
  rfl
theorem a_num2 (hb : b ≤ 122) {P : PV} {n r : Nat} (hn8 : n ≤ 8) (h0 : P.1 0 = nI n) (hbl : ∀ i, i < n → P.2 12 i = -1 ∨ ∃ k, k ≤ i ∧ P.2 12 i = nI k) (hr : r < n) : f_X1_numberOf (hp G b P) b (nI r) (nI 2) = some (nuF P n r 2) := by
  have hr8 : r < 8 := by omega
  unfold f_X1_numberOf b_X1_numberOf_98 b_X1_numberOf_126
  rw [if_neg (show ¬ nI 2 = (7 : Int32) from nI_ne (by decide) (by decide) (by decide)), if_neg (show ¬ nI 2 = (8 : Int32) from nI_ne (by decide) (by decide) (by decide)), if_neg (show ¬ nI 2 = (9 : Int32) from nI_ne (by decide) (by decide) (by decide)), if_neg (show ¬ nI 2 = (10 : Int32) from nI_ne (by decide) (by decide) (by decide)), if_neg (show ¬ nI 2 = (11 : Int32) from nI_ne (by decide) (by decide) (by decide)), if_neg (show ¬ nI 2 = (12 : Int32) from nI_ne (by decide) (by decide) (by decide)), if_neg (show ¬ nI 2 = (13 : Int32) from nI_ne (by decide) (by decide) (by decide)), if_neg (show ¬ nI 2 = (14 : Int32) from nI_ne (by decide) (by decide) (by decide)), if_neg (show ¬ nI 2 = (15 : Int32) from nI_ne (by decide) (by decide) (by decide)), if_neg (show ¬ nI 2 = (16 : Int32) from nI_ne (by decide) (by decide) (by decide)), if_neg (show ¬ nI 2 = (17 : Int32) from nI_ne (by decide) (by decide) (by decide)), if_neg (show ¬ nI 2 = (18 : Int32) from nI_ne (by decide) (by decide) (by decide)), p_v1 hb, a_propG hb hr8 (by decide), obs]
  rfl
theorem a_num3 (hb : b ≤ 122) {P : PV} {n r : Nat} (hn8 : n ≤ 8) (h0 : P.1 0 = nI n) (hbl : ∀ i, i < n → P.2 12 i = -1 ∨ ∃ k, k ≤ i ∧ P.2 12 i = nI k) (hr : r < n) : f_X1_numberOf (hp G b P) b (nI r) (nI 3) = some (nuF P n r 3) := by
  have hr8 : r < 8 := by omega
  unfold f_X1_numberOf b_X1_numberOf_98 b_X1_numberOf_126
  rw [if_neg (show ¬ nI 3 = (7 : Int32) from nI_ne (by decide) (by decide) (by decide)), if_neg (show ¬ nI 3 = (8 : Int32) from nI_ne (by decide) (by decide) (by decide)), if_neg (show ¬ nI 3 = (9 : Int32) from nI_ne (by decide) (by decide) (by decide)), if_neg (show ¬ nI 3 = (10 : Int32) from nI_ne (by decide) (by decide) (by decide)), if_neg (show ¬ nI 3 = (11 : Int32) from nI_ne (by decide) (by decide) (by decide)), if_neg (show ¬ nI 3 = (12 : Int32) from nI_ne (by decide) (by decide) (by decide)), if_neg (show ¬ nI 3 = (13 : Int32) from nI_ne (by decide) (by decide) (by decide)), if_neg (show ¬ nI 3 = (14 : Int32) from nI_ne (by decide) (by decide) (by decide)), if_neg (show ¬ nI 3 = (15 : Int32) from nI_ne (by decide) (by decide) (by decide)), if_neg (show ¬ nI 3 = (16 : Int32) from nI_ne (by decide) (by decide) (by decide)), if_neg (show ¬ nI 3 = (17 : Int32) from nI_ne (by decide) (by decide) (by decide)), if_neg (show ¬ nI 3 = (18 : Int32) from nI_ne (by decide) (by decide) (by decide)), p_v1 hb, a_propG hb hr8 (by decide), obs]
  rfl
theorem a_num4 (hb : b ≤ 122) {P : PV} {n r : Nat} (hn8 : n ≤ 8) (h0 : P.1 0 = nI n) (hbl : ∀ i, i < n → P.2 12 i = -1 ∨ ∃ k, k ≤ i ∧ P.2 12 i = nI k) (hr : r < n) : f_X1_numberOf (hp G b P) b (nI r) (nI 4) = some (nuF P n r 4) := by
  have hr8 : r < 8 := by omega
  unfold f_X1_numberOf b_X1_numberOf_98 b_X1_numberOf_126
  rw [if_neg (show ¬ nI 4 = (7 : Int32) from nI_ne (by decide) (by decide) (by decide)), if_neg (show ¬ nI 4 = (8 : Int32) from nI_ne (by decide) (by decide) (by decide)), if_neg (show ¬ nI 4 = (9 : Int32) from nI_ne (by decide) (by decide) (by decide)), if_neg (show ¬ nI 4 = (10 : Int32) from nI_ne (by decide) (by decide) (by decide)), if_neg (show ¬ nI 4 = (11 : Int32) from nI_ne (by decide) (by decide) (by decide)), if_neg (show ¬ nI 4 = (12 : Int32) from nI_ne (by decide) (by decide) (by decide)), if_neg (show ¬ nI 4 = (13 : Int32) from nI_ne (by decide) (by decide) (by decide)), if_neg (show ¬ nI 4 = (14 : Int32) from nI_ne (by decide) (by decide) (by decide)), if_neg (show ¬ nI 4 = (15 : Int32) from nI_ne (by decide) (by decide) (by decide)), if_neg (show ¬ nI 4 = (16 : Int32) from nI_ne (by decide) (by decide) (by decide)), if_neg (show ¬ nI 4 = (17 : Int32) from nI_ne (by decide) (by decide) (by decide)), if_neg (show ¬ nI 4 = (18 : Int32) from nI_ne (by decide) (by decide) (by decide)), p_v1 hb, a_propG hb hr8 (by decide), obs]
  rfl
theorem a_num5 (hb : b ≤ 122) {P : PV} {n r : Nat} (hn8 : n ≤ 8) (h0 : P.1 0 = nI n) (hbl : ∀ i, i < n → P.2 12 i = -1 ∨ ∃ k, k ≤ i ∧ P.2 12 i = nI k) (hr : r < n) : f_X1_numberOf (hp G b P) b (nI r) (nI 5) = some (nuF P n r 5) := by
  have hr8 : r < 8 := by omega
  unfold f_X1_numberOf b_X1_numberOf_98 b_X1_numberOf_126
  rw [if_neg (show ¬ nI 5 = (7 : Int32) from nI_ne (by decide) (by decide) (by decide)), if_neg (show ¬ nI 5 = (8 : Int32) from nI_ne (by decide) (by decide) (by decide)), if_neg (show ¬ nI 5 = (9 : Int32) from nI_ne (by decide) (by decide) (by decide)), if_neg (show ¬ nI 5 = (10 : Int32) from nI_ne (by decide) (by decide) (by decide)), if_neg (show ¬ nI 5 = (11 : Int32) from nI_ne (by decide) (by decide) (by decide)), if_neg (show ¬ nI 5 = (12 : Int32) from nI_ne (by decide) (by decide) (by decide)), if_neg (show ¬ nI 5 = (13 : Int32) from nI_ne (by decide) (by decide) (by decide)), if_neg (show ¬ nI 5 = (14 : Int32) from nI_ne (by decide) (by decide) (by decide)), if_neg (show ¬ nI 5 = (15 : Int32) from nI_ne (by decide) (by decide) (by decide)), if_neg (show ¬ nI 5 = (16 : Int32) from nI_ne (by decide) (by decide) (by decide)), if_neg (show ¬ nI 5 = (17 : Int32) from nI_ne (by decide) (by decide) (by decide)), if_neg (show ¬ nI 5 = (18 : Int32) from nI_ne (by decide) (by decide) (by decide)), p_v1 hb, a_propG hb hr8 (by decide), obs]
  rfl
theorem a_num6 (hb : b ≤ 122) {P : PV} {n r : Nat} (hn8 : n ≤ 8) (h0 : P.1 0 = nI n) (hbl : ∀ i, i < n → P.2 12 i = -1 ∨ ∃ k, k ≤ i ∧ P.2 12 i = nI k) (hr : r < n) : f_X1_numberOf (hp G b P) b (nI r) (nI 6) = some (nuF P n r 6) := by
  have hr8 : r < 8 := by omega
  unfold f_X1_numberOf b_X1_numberOf_98 b_X1_numberOf_126
  rw [if_neg (show ¬ nI 6 = (7 : Int32) from nI_ne (by decide) (by decide) (by decide)), if_neg (show ¬ nI 6 = (8 : Int32) from nI_ne (by decide) (by decide) (by decide)), if_neg (show ¬ nI 6 = (9 : Int32) from nI_ne (by decide) (by decide) (by decide)), if_neg (show ¬ nI 6 = (10 : Int32) from nI_ne (by decide) (by decide) (by decide)), if_neg (show ¬ nI 6 = (11 : Int32) from nI_ne (by decide) (by decide) (by decide)), if_neg (show ¬ nI 6 = (12 : Int32) from nI_ne (by decide) (by decide) (by decide)), if_neg (show ¬ nI 6 = (13 : Int32) from nI_ne (by decide) (by decide) (by decide)), if_neg (show ¬ nI 6 = (14 : Int32) from nI_ne (by decide) (by decide) (by decide)), if_neg (show ¬ nI 6 = (15 : Int32) from nI_ne (by decide) (by decide) (by decide)), if_neg (show ¬ nI 6 = (16 : Int32) from nI_ne (by decide) (by decide) (by decide)), if_neg (show ¬ nI 6 = (17 : Int32) from nI_ne (by decide) (by decide) (by decide)), if_neg (show ¬ nI 6 = (18 : Int32) from nI_ne (by decide) (by decide) (by decide)), p_v1 hb, a_propG hb hr8 (by decide), obs]
  rfl
theorem a_num7 (hb : b ≤ 122) {P : PV} {n r : Nat} (hn8 : n ≤ 8) (h0 : P.1 0 = nI n) (hbl : ∀ i, i < n → P.2 12 i = -1 ∨ ∃ k, k ≤ i ∧ P.2 12 i = nI k) (hr : r < n) : f_X1_numberOf (hp G b P) b (nI r) (nI 7) = some (nuF P n r 7) := by
  have hr8 : r < 8 := by omega
  unfold f_X1_numberOf b_X1_numberOf_98 b_X1_numberOf_126
  rw [if_pos (show nI 7 = (7 : Int32) from rfl), p_R5 hb, obs, p_a5 hb, bd_nI (by omega) (by decide), obs]
  rfl
theorem a_num8 (hb : b ≤ 122) {P : PV} {n r : Nat} (hn8 : n ≤ 8) (h0 : P.1 0 = nI n) (hbl : ∀ i, i < n → P.2 12 i = -1 ∨ ∃ k, k ≤ i ∧ P.2 12 i = nI k) (hr : r < n) : f_X1_numberOf (hp G b P) b (nI r) (nI 8) = some (nuF P n r 8) := by
  have hr8 : r < 8 := by omega
  unfold f_X1_numberOf b_X1_numberOf_98 b_X1_numberOf_126
  rw [if_neg (show ¬ nI 8 = (7 : Int32) from nI_ne (by decide) (by decide) (by decide)), if_pos (show nI 8 = (8 : Int32) from rfl), p_v1 hb, a_foll hb hn8 h0, obs]
  rfl
theorem a_num9 (hb : b ≤ 122) {P : PV} {n r : Nat} (hn8 : n ≤ 8) (h0 : P.1 0 = nI n) (hbl : ∀ i, i < n → P.2 12 i = -1 ∨ ∃ k, k ≤ i ∧ P.2 12 i = nI k) (hr : r < n) : f_X1_numberOf (hp G b P) b (nI r) (nI 9) = some (nuF P n r 9) := by
  have hr8 : r < 8 := by omega
  unfold f_X1_numberOf b_X1_numberOf_98 b_X1_numberOf_126
  rw [if_neg (show ¬ nI 9 = (7 : Int32) from nI_ne (by decide) (by decide) (by decide)), if_neg (show ¬ nI 9 = (8 : Int32) from nI_ne (by decide) (by decide) (by decide)), if_pos (show nI 9 = (9 : Int32) from rfl), p_v1 hb, a_wanted hb hr8, obs]
  rw [show nuF P n r 9 = (if tb (P.1 3) r = true then 1 else 0) from rfl]
  cases tb (P.1 3) r <;> rfl
theorem a_num10 (hb : b ≤ 122) {P : PV} {n r : Nat} (hn8 : n ≤ 8) (h0 : P.1 0 = nI n) (hbl : ∀ i, i < n → P.2 12 i = -1 ∨ ∃ k, k ≤ i ∧ P.2 12 i = nI k) (hr : r < n) : f_X1_numberOf (hp G b P) b (nI r) (nI 10) = some (nuF P n r 10) := by
  have hr8 : r < 8 := by omega
  unfold f_X1_numberOf b_X1_numberOf_98 b_X1_numberOf_126
  rw [if_neg (show ¬ nI 10 = (7 : Int32) from nI_ne (by decide) (by decide) (by decide)), if_neg (show ¬ nI 10 = (8 : Int32) from nI_ne (by decide) (by decide) (by decide)), if_neg (show ¬ nI 10 = (9 : Int32) from nI_ne (by decide) (by decide) (by decide)), if_pos (show nI 10 = (10 : Int32) from rfl), p_R6 hb, obs, p_a6 hb, bd_nI (by omega) (by decide), obs]
  rfl
theorem a_num11 (hb : b ≤ 122) {P : PV} {n r : Nat} (hn8 : n ≤ 8) (h0 : P.1 0 = nI n) (hbl : ∀ i, i < n → P.2 12 i = -1 ∨ ∃ k, k ≤ i ∧ P.2 12 i = nI k) (hr : r < n) : f_X1_numberOf (hp G b P) b (nI r) (nI 11) = some (nuF P n r 11) := by
  have hr8 : r < 8 := by omega
  unfold f_X1_numberOf b_X1_numberOf_98 b_X1_numberOf_126
  rw [if_neg (show ¬ nI 11 = (7 : Int32) from nI_ne (by decide) (by decide) (by decide)), if_neg (show ¬ nI 11 = (8 : Int32) from nI_ne (by decide) (by decide) (by decide)), if_neg (show ¬ nI 11 = (9 : Int32) from nI_ne (by decide) (by decide) (by decide)), if_neg (show ¬ nI 11 = (10 : Int32) from nI_ne (by decide) (by decide) (by decide)), if_pos (show nI 11 = (11 : Int32) from rfl), p_R7 hb, obs, p_a7 hb, bd_nI (by omega) (by decide), obs]
  rfl
theorem a_num12 (hb : b ≤ 122) {P : PV} {n r : Nat} (hn8 : n ≤ 8) (h0 : P.1 0 = nI n) (hbl : ∀ i, i < n → P.2 12 i = -1 ∨ ∃ k, k ≤ i ∧ P.2 12 i = nI k) (hr : r < n) : f_X1_numberOf (hp G b P) b (nI r) (nI 12) = some (nuF P n r 12) := by
  have hr8 : r < 8 := by omega
  unfold f_X1_numberOf b_X1_numberOf_98 b_X1_numberOf_126
  rw [if_neg (show ¬ nI 12 = (7 : Int32) from nI_ne (by decide) (by decide) (by decide)), if_neg (show ¬ nI 12 = (8 : Int32) from nI_ne (by decide) (by decide) (by decide)), if_neg (show ¬ nI 12 = (9 : Int32) from nI_ne (by decide) (by decide) (by decide)), if_neg (show ¬ nI 12 = (10 : Int32) from nI_ne (by decide) (by decide) (by decide)), if_neg (show ¬ nI 12 = (11 : Int32) from nI_ne (by decide) (by decide) (by decide)), if_pos (show nI 12 = (12 : Int32) from rfl), p_v1 hb, a_flag hb hr8, obs]
  rw [show nuF P n r 12 = (if flgR (rowP P r) = true then 1 else 0) from rfl]
  cases flgR (rowP P r) <;> rfl
theorem a_num13 (hb : b ≤ 122) {P : PV} {n r : Nat} (hn8 : n ≤ 8) (h0 : P.1 0 = nI n) (hbl : ∀ i, i < n → P.2 12 i = -1 ∨ ∃ k, k ≤ i ∧ P.2 12 i = nI k) (hr : r < n) : f_X1_numberOf (hp G b P) b (nI r) (nI 13) = some (nuF P n r 13) := by
  have hr8 : r < 8 := by omega
  unfold f_X1_numberOf b_X1_numberOf_98 b_X1_numberOf_126
  rw [if_neg (show ¬ nI 13 = (7 : Int32) from nI_ne (by decide) (by decide) (by decide)), if_neg (show ¬ nI 13 = (8 : Int32) from nI_ne (by decide) (by decide) (by decide)), if_neg (show ¬ nI 13 = (9 : Int32) from nI_ne (by decide) (by decide) (by decide)), if_neg (show ¬ nI 13 = (10 : Int32) from nI_ne (by decide) (by decide) (by decide)), if_neg (show ¬ nI 13 = (11 : Int32) from nI_ne (by decide) (by decide) (by decide)), if_neg (show ¬ nI 13 = (12 : Int32) from nI_ne (by decide) (by decide) (by decide)), if_pos (show nI 13 = (13 : Int32) from rfl), p_R8 hb, obs, p_a8 hb, bd_nI (by omega) (by decide), obs]
  rfl
theorem a_num14 (hb : b ≤ 122) {P : PV} {n r : Nat} (hn8 : n ≤ 8) (h0 : P.1 0 = nI n) (hbl : ∀ i, i < n → P.2 12 i = -1 ∨ ∃ k, k ≤ i ∧ P.2 12 i = nI k) (hr : r < n) : f_X1_numberOf (hp G b P) b (nI r) (nI 14) = some (nuF P n r 14) := by
  have hr8 : r < 8 := by omega
  unfold f_X1_numberOf b_X1_numberOf_98 b_X1_numberOf_126
  rw [if_neg (show ¬ nI 14 = (7 : Int32) from nI_ne (by decide) (by decide) (by decide)), if_neg (show ¬ nI 14 = (8 : Int32) from nI_ne (by decide) (by decide) (by decide)), if_neg (show ¬ nI 14 = (9 : Int32) from nI_ne (by decide) (by decide) (by decide)), if_neg (show ¬ nI 14 = (10 : Int32) from nI_ne (by decide) (by decide) (by decide)), if_neg (show ¬ nI 14 = (11 : Int32) from nI_ne (by decide) (by decide) (by decide)), if_neg (show ¬ nI 14 = (12 : Int32) from nI_ne (by decide) (by decide) (by decide)), if_neg (show ¬ nI 14 = (13 : Int32) from nI_ne (by decide) (by decide) (by decide)), if_pos (show nI 14 = (14 : Int32) from rfl), p_R9 hb, obs, p_a9 hb, bd_nI (by omega) (by decide), obs]
  rfl
theorem a_num15 (hb : b ≤ 122) {P : PV} {n r : Nat} (hn8 : n ≤ 8) (h0 : P.1 0 = nI n) (hbl : ∀ i, i < n → P.2 12 i = -1 ∨ ∃ k, k ≤ i ∧ P.2 12 i = nI k) (hr : r < n) : f_X1_numberOf (hp G b P) b (nI r) (nI 15) = some (nuF P n r 15) := by
  have hr8 : r < 8 := by omega
  unfold f_X1_numberOf b_X1_numberOf_98 b_X1_numberOf_126
  rw [if_neg (show ¬ nI 15 = (7 : Int32) from nI_ne (by decide) (by decide) (by decide)), if_neg (show ¬ nI 15 = (8 : Int32) from nI_ne (by decide) (by decide) (by decide)), if_neg (show ¬ nI 15 = (9 : Int32) from nI_ne (by decide) (by decide) (by decide)), if_neg (show ¬ nI 15 = (10 : Int32) from nI_ne (by decide) (by decide) (by decide)), if_neg (show ¬ nI 15 = (11 : Int32) from nI_ne (by decide) (by decide) (by decide)), if_neg (show ¬ nI 15 = (12 : Int32) from nI_ne (by decide) (by decide) (by decide)), if_neg (show ¬ nI 15 = (13 : Int32) from nI_ne (by decide) (by decide) (by decide)), if_neg (show ¬ nI 15 = (14 : Int32) from nI_ne (by decide) (by decide) (by decide)), if_pos (show nI 15 = (15 : Int32) from rfl), p_R10 hb, obs, p_a10 hb, bd_nI (by omega) (by decide), obs]
  rfl
theorem a_num16 (hb : b ≤ 122) {P : PV} {n r : Nat} (hn8 : n ≤ 8) (h0 : P.1 0 = nI n) (hbl : ∀ i, i < n → P.2 12 i = -1 ∨ ∃ k, k ≤ i ∧ P.2 12 i = nI k) (hr : r < n) : f_X1_numberOf (hp G b P) b (nI r) (nI 16) = some (nuF P n r 16) := by
  have hr8 : r < 8 := by omega
  unfold f_X1_numberOf b_X1_numberOf_98 b_X1_numberOf_126
  rw [if_neg (show ¬ nI 16 = (7 : Int32) from nI_ne (by decide) (by decide) (by decide)), if_neg (show ¬ nI 16 = (8 : Int32) from nI_ne (by decide) (by decide) (by decide)), if_neg (show ¬ nI 16 = (9 : Int32) from nI_ne (by decide) (by decide) (by decide)), if_neg (show ¬ nI 16 = (10 : Int32) from nI_ne (by decide) (by decide) (by decide)), if_neg (show ¬ nI 16 = (11 : Int32) from nI_ne (by decide) (by decide) (by decide)), if_neg (show ¬ nI 16 = (12 : Int32) from nI_ne (by decide) (by decide) (by decide)), if_neg (show ¬ nI 16 = (13 : Int32) from nI_ne (by decide) (by decide) (by decide)), if_neg (show ¬ nI 16 = (14 : Int32) from nI_ne (by decide) (by decide) (by decide)), if_neg (show ¬ nI 16 = (15 : Int32) from nI_ne (by decide) (by decide) (by decide)), if_pos (show nI 16 = (16 : Int32) from rfl), p_R11 hb, obs, p_a11 hb, bd_nI (by omega) (by decide), obs]
  rfl
theorem a_num17 (hb : b ≤ 122) {P : PV} {n r : Nat} (hn8 : n ≤ 8) (h0 : P.1 0 = nI n) (hbl : ∀ i, i < n → P.2 12 i = -1 ∨ ∃ k, k ≤ i ∧ P.2 12 i = nI k) (hr : r < n) : f_X1_numberOf (hp G b P) b (nI r) (nI 17) = some (nuF P n r 17) := by
  have hr8 : r < 8 := by omega
  unfold f_X1_numberOf b_X1_numberOf_98 b_X1_numberOf_126
  rw [if_neg (show ¬ nI 17 = (7 : Int32) from nI_ne (by decide) (by decide) (by decide)), if_neg (show ¬ nI 17 = (8 : Int32) from nI_ne (by decide) (by decide) (by decide)), if_neg (show ¬ nI 17 = (9 : Int32) from nI_ne (by decide) (by decide) (by decide)), if_neg (show ¬ nI 17 = (10 : Int32) from nI_ne (by decide) (by decide) (by decide)), if_neg (show ¬ nI 17 = (11 : Int32) from nI_ne (by decide) (by decide) (by decide)), if_neg (show ¬ nI 17 = (12 : Int32) from nI_ne (by decide) (by decide) (by decide)), if_neg (show ¬ nI 17 = (13 : Int32) from nI_ne (by decide) (by decide) (by decide)), if_neg (show ¬ nI 17 = (14 : Int32) from nI_ne (by decide) (by decide) (by decide)), if_neg (show ¬ nI 17 = (15 : Int32) from nI_ne (by decide) (by decide) (by decide)), if_neg (show ¬ nI 17 = (16 : Int32) from nI_ne (by decide) (by decide) (by decide)), if_pos (show nI 17 = (17 : Int32) from rfl), p_R12 hb, obs, p_a12 hb, bd_nI (by omega) (by decide), obs]
  rfl
theorem a_num18 (hb : b ≤ 122) {P : PV} {n r : Nat} (hn8 : n ≤ 8) (h0 : P.1 0 = nI n) (hbl : ∀ i, i < n → P.2 12 i = -1 ∨ ∃ k, k ≤ i ∧ P.2 12 i = nI k) (hr : r < n) : f_X1_numberOf (hp G b P) b (nI r) (nI 18) = some (nuF P n r 18) := by
  have hr8 : r < 8 := by omega
  unfold f_X1_numberOf b_X1_numberOf_98 b_X1_numberOf_126
  rw [if_neg (show ¬ nI 18 = (7 : Int32) from nI_ne (by decide) (by decide) (by decide)), if_neg (show ¬ nI 18 = (8 : Int32) from nI_ne (by decide) (by decide) (by decide)), if_neg (show ¬ nI 18 = (9 : Int32) from nI_ne (by decide) (by decide) (by decide)), if_neg (show ¬ nI 18 = (10 : Int32) from nI_ne (by decide) (by decide) (by decide)), if_neg (show ¬ nI 18 = (11 : Int32) from nI_ne (by decide) (by decide) (by decide)), if_neg (show ¬ nI 18 = (12 : Int32) from nI_ne (by decide) (by decide) (by decide)), if_neg (show ¬ nI 18 = (13 : Int32) from nI_ne (by decide) (by decide) (by decide)), if_neg (show ¬ nI 18 = (14 : Int32) from nI_ne (by decide) (by decide) (by decide)), if_neg (show ¬ nI 18 = (15 : Int32) from nI_ne (by decide) (by decide) (by decide)), if_neg (show ¬ nI 18 = (16 : Int32) from nI_ne (by decide) (by decide) (by decide)), if_neg (show ¬ nI 18 = (17 : Int32) from nI_ne (by decide) (by decide) (by decide)), if_pos (show nI 18 = (18 : Int32) from rfl), p_v1 hb, a_blame hb hn8 hbl hr, obs, nu18]
theorem a_number (hb : b ≤ 122) {P : PV} {n r w : Nat} (hn8 : n ≤ 8) (h0 : P.1 0 = nI n) (hbl : ∀ i, i < n → P.2 12 i = -1 ∨ ∃ k, k ≤ i ∧ P.2 12 i = nI k) (hr : r < n) (hw : w < 19) : f_X1_numberOf (hp G b P) b (nI r) (nI w) = some (nuF P n r w) := by
  match w, hw with
  | 0, _ => exact a_num0 hb hn8 h0 hbl hr
  | 1, _ => exact a_num1 hb hn8 h0 hbl hr
  | 2, _ => exact a_num2 hb hn8 h0 hbl hr
  | 3, _ => exact a_num3 hb hn8 h0 hbl hr
  | 4, _ => exact a_num4 hb hn8 h0 hbl hr
  | 5, _ => exact a_num5 hb hn8 h0 hbl hr
  | 6, _ => exact a_num6 hb hn8 h0 hbl hr
  | 7, _ => exact a_num7 hb hn8 h0 hbl hr
  | 8, _ => exact a_num8 hb hn8 h0 hbl hr
  | 9, _ => exact a_num9 hb hn8 h0 hbl hr
  | 10, _ => exact a_num10 hb hn8 h0 hbl hr
  | 11, _ => exact a_num11 hb hn8 h0 hbl hr
  | 12, _ => exact a_num12 hb hn8 h0 hbl hr
  | 13, _ => exact a_num13 hb hn8 h0 hbl hr
  | 14, _ => exact a_num14 hb hn8 h0 hbl hr
  | 15, _ => exact a_num15 hb hn8 h0 hbl hr
  | 16, _ => exact a_num16 hb hn8 h0 hbl hr
  | 17, _ => exact a_num17 hb hn8 h0 hbl hr
  | 18, _ => exact a_num18 hb hn8 h0 hbl hr
  | w + 19, hw => omega

variable {T : TS}
