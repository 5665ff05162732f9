/-! a rail's numbers, on both sides -/
def bitI (r : Nat) : Int32 := (1 : Int32) <<< (nI r &&& 31)
def nuF (P : PV) (n r w : Nat) : Int32 :=
  if w = 8 then foF (P.2 5) n 0 (bitI r) &&& (bitI r ^^^ (-1 : Int32))
  else if w = 9 then (if tb (P.1 3) r = true then 1 else 0)
  else if w = 12 then (if flgR (rowP P r) = true then 1 else 0)
  else if w = 18 then fbO (P.2 12) r
  else if w < 9 then rowP P r w else if w < 12 then rowP P r (w - 1) else rowP P r (w - 2)
variable {G : Nat → MC} {b : Nat}
theorem a_propG (hb : b ≤ 125) {P : PV} {r p : Nat} (hr : r < 8) (hp : p < 7) : f_X1_propertyOf (hp G b P) b (nI r) (nI p) = some (rowP P r p) := by
  unfold f_X1_propertyOf
  rw [p_R4 hb, obs, p_a4 hb, ix7, nI_add, bd_nI (by omega) (by decide), obs, rd_p P r hp]
theorem a_foll (hb : b ≤ 125) {P : PV} {n : Nat} (hn8 : n ≤ 8) (h0 : P.1 0 = nI n) (x : Int32) : f_X1_withFollowers (hp G b P) b x = some (foF (P.2 5) n 0 x) := by
  unfold f_X1_withFollowers
  exact a_follLoop hb h0 hn8 n 0 FU x (by omega) (by rw [FU_eq]; omega)
theorem nI_ne {a c : Nat} (ha : a < 100) (hc : c < 100) (h : a ≠ c) : ¬ nI a = nI c := by
  rw [nI_eq (by omega) (by omega)]
  exact h
theorem a_number (hb : b ≤ 125) {P : PV} {n r w : Nat} (hn8 : n ≤ 8) (h0 : P.1 0 = nI n) (hbl : ∀ i, i < n → P.2 12 i = -1 ∨ ∃ k, k ≤ i ∧ P.2 12 i = nI k) (hr : r < n) (hw : w < 19) : f_X1_numberOf (hp G b P) b (nI r) (nI w) = some (nuF P n r w) := by
  have hr8 : r < 8 := by omega
  unfold f_X1_numberOf b_X1_numberOf_98 b_X1_numberOf_126
  match w, hw with
  | 0, _ =>
    rw [if_neg (nI_ne (a := 0) (c := 7) (by decide) (by decide) (by decide)), if_neg (nI_ne (a := 0) (c := 8) (by decide) (by decide) (by decide)), if_neg (nI_ne (a := 0) (c := 9) (by decide) (by decide) (by decide)), if_neg (nI_ne (a := 0) (c := 10) (by decide) (by decide) (by decide)), if_neg (nI_ne (a := 0) (c := 11) (by decide) (by decide) (by decide)), if_neg (nI_ne (a := 0) (c := 12) (by decide) (by decide) (by decide)), if_neg (nI_ne (a := 0) (c := 13) (by decide) (by decide) (by decide)), if_neg (nI_ne (a := 0) (c := 14) (by decide) (by decide) (by decide)), if_neg (nI_ne (a := 0) (c := 15) (by decide) (by decide) (by decide)), if_neg (nI_ne (a := 0) (c := 16) (by decide) (by decide) (by decide)), if_neg (nI_ne (a := 0) (c := 17) (by decide) (by decide) (by decide)), if_neg (nI_ne (a := 0) (c := 18) (by decide) (by decide) (by decide)), p_v1 hb, a_propG hb hr8 (by decide), obs]
    rfl
  | 1, _ =>
    rw [if_neg (nI_ne (a := 1) (c := 7) (by decide) (by decide) (by decide)), if_neg (nI_ne (a := 1) (c := 8) (by decide) (by decide) (by decide)), if_neg (nI_ne (a := 1) (c := 9) (by decide) (by decide) (by decide)), if_neg (nI_ne (a := 1) (c := 10) (by decide) (by decide) (by decide)), if_neg (nI_ne (a := 1) (c := 11) (by decide) (by decide) (by decide)), if_neg (nI_ne (a := 1) (c := 12) (by decide) (by decide) (by decide)), if_neg (nI_ne (a := 1) (c := 13) (by decide) (by decide) (by decide)), if_neg (nI_ne (a := 1) (c := 14) (by decide) (by decide) (by decide)), if_neg (nI_ne (a := 1) (c := 15) (by decide) (by decide) (by decide)), if_neg (nI_ne (a := 1) (c := 16) (by decide) (by decide) (by decide)), if_neg (nI_ne (a := 1) (c := 17) (by decide) (by decide) (by decide)), if_neg (nI_ne (a := 1) (c := 18) (by decide) (by decide) (by decide)), p_v1 hb, a_propG hb hr8 (by decide), obs]
    rfl
  | 2, _ =>
    rw [if_neg (nI_ne (a := 2) (c := 7) (by decide) (by decide) (by decide)), if_neg (nI_ne (a := 2) (c := 8) (by decide) (by decide) (by decide)), if_neg (nI_ne (a := 2) (c := 9) (by decide) (by decide) (by decide)), if_neg (nI_ne (a := 2) (c := 10) (by decide) (by decide) (by decide)), if_neg (nI_ne (a := 2) (c := 11) (by decide) (by decide) (by decide)), if_neg (nI_ne (a := 2) (c := 12) (by decide) (by decide) (by decide)), if_neg (nI_ne (a := 2) (c := 13) (by decide) (by decide) (by decide)), if_neg (nI_ne (a := 2) (c := 14) (by decide) (by decide) (by decide)), if_neg (nI_ne (a := 2) (c := 15) (by decide) (by decide) (by decide)), if_neg (nI_ne (a := 2) (c := 16) (by decide) (by decide) (by decide)), if_neg (nI_ne (a := 2) (c := 17) (by decide) (by decide) (by decide)), if_neg (nI_ne (a := 2) (c := 18) (by decide) (by decide) (by decide)), p_v1 hb, a_propG hb hr8 (by decide), obs]
    rfl
  | 3, _ =>
    rw [if_neg (nI_ne (a := 3) (c := 7) (by decide) (by decide) (by decide)), if_neg (nI_ne (a := 3) (c := 8) (by decide) (by decide) (by decide)), if_neg (nI_ne (a := 3) (c := 9) (by decide) (by decide) (by decide)), if_neg (nI_ne (a := 3) (c := 10) (by decide) (by decide) (by decide)), if_neg (nI_ne (a := 3) (c := 11) (by decide) (by decide) (by decide)), if_neg (nI_ne (a := 3) (c := 12) (by decide) (by decide) (by decide)), if_neg (nI_ne (a := 3) (c := 13) (by decide) (by decide) (by decide)), if_neg (nI_ne (a := 3) (c := 14) (by decide) (by decide) (by decide)), if_neg (nI_ne (a := 3) (c := 15) (by decide) (by decide) (by decide)), if_neg (nI_ne (a := 3) (c := 16) (by decide) (by decide) (by decide)), if_neg (nI_ne (a := 3) (c := 17) (by decide) (by decide) (by decide)), if_neg (nI_ne (a := 3) (c := 18) (by decide) (by decide) (by decide)), p_v1 hb, a_propG hb hr8 (by decide), obs]
    rfl
  | 4, _ =>
    rw [if_neg (nI_ne (a := 4) (c := 7) (by decide) (by decide) (by decide)), if_neg (nI_ne (a := 4) (c := 8) (by decide) (by decide) (by decide)), if_neg (nI_ne (a := 4) (c := 9) (by decide) (by decide) (by decide)), if_neg (nI_ne (a := 4) (c := 10) (by decide) (by decide) (by decide)), if_neg (nI_ne (a := 4) (c := 11) (by decide) (by decide) (by decide)), if_neg (nI_ne (a := 4) (c := 12) (by decide) (by decide) (by decide)), if_neg (nI_ne (a := 4) (c := 13) (by decide) (by decide) (by decide)), if_neg (nI_ne (a := 4) (c := 14) (by decide) (by decide) (by decide)), if_neg (nI_ne (a := 4) (c := 15) (by decide) (by decide) (by decide)), if_neg (nI_ne (a := 4) (c := 16) (by decide) (by decide) (by decide)), if_neg (nI_ne (a := 4) (c := 17) (by decide) (by decide) (by decide)), if_neg (nI_ne (a := 4) (c := 18) (by decide) (by decide) (by decide)), p_v1 hb, a_propG hb hr8 (by decide), obs]
    rfl
  | 5, _ =>
    rw [if_neg (nI_ne (a := 5) (c := 7) (by decide) (by decide) (by decide)), if_neg (nI_ne (a := 5) (c := 8) (by decide) (by decide) (by decide)), if_neg (nI_ne (a := 5) (c := 9) (by decide) (by decide) (by decide)), if_neg (nI_ne (a := 5) (c := 10) (by decide) (by decide) (by decide)), if_neg (nI_ne (a := 5) (c := 11) (by decide) (by decide) (by decide)), if_neg (nI_ne (a := 5) (c := 12) (by decide) (by decide) (by decide)), if_neg (nI_ne (a := 5) (c := 13) (by decide) (by decide) (by decide)), if_neg (nI_ne (a := 5) (c := 14) (by decide) (by decide) (by decide)), if_neg (nI_ne (a := 5) (c := 15) (by decide) (by decide) (by decide)), if_neg (nI_ne (a := 5) (c := 16) (by decide) (by decide) (by decide)), if_neg (nI_ne (a := 5) (c := 17) (by decide) (by decide) (by decide)), if_neg (nI_ne (a := 5) (c := 18) (by decide) (by decide) (by decide)), p_v1 hb, a_propG hb hr8 (by decide), obs]
    rfl
  | 6, _ =>
    rw [if_neg (nI_ne (a := 6) (c := 7) (by decide) (by decide) (by decide)), if_neg (nI_ne (a := 6) (c := 8) (by decide) (by decide) (by decide)), if_neg (nI_ne (a := 6) (c := 9) (by decide) (by decide) (by decide)), if_neg (nI_ne (a := 6) (c := 10) (by decide) (by decide) (by decide)), if_neg (nI_ne (a := 6) (c := 11) (by decide) (by decide) (by decide)), if_neg (nI_ne (a := 6) (c := 12) (by decide) (by decide) (by decide)), if_neg (nI_ne (a := 6) (c := 13) (by decide) (by decide) (by decide)), if_neg (nI_ne (a := 6) (c := 14) (by decide) (by decide) (by decide)), if_neg (nI_ne (a := 6) (c := 15) (by decide) (by decide) (by decide)), if_neg (nI_ne (a := 6) (c := 16) (by decide) (by decide) (by decide)), if_neg (nI_ne (a := 6) (c := 17) (by decide) (by decide) (by decide)), if_neg (nI_ne (a := 6) (c := 18) (by decide) (by decide) (by decide)), p_v1 hb, a_propG hb hr8 (by decide), obs]
    rfl
  | 7, _ =>
    rw [if_pos rfl, p_R5 hb, obs, p_a5 hb, bd_nI (by omega) (by decide), obs]
    rfl
  | 8, _ =>
    rw [if_neg (nI_ne (a := 8) (c := 7) (by decide) (by decide) (by decide)), if_pos rfl, p_v1 hb, a_foll hb hn8 h0, obs]
    rfl
  | 9, _ =>
    rw [if_neg (nI_ne (a := 9) (c := 7) (by decide) (by decide) (by decide)), if_neg (nI_ne (a := 9) (c := 8) (by decide) (by decide) (by decide)), if_pos rfl, p_v1 hb, a_wanted hb hr8, obs]
    unfold nuF
    rw [if_neg (by decide), if_pos rfl]
    cases tb (P.1 3) r <;> rfl
  | 10, _ =>
    rw [if_neg (nI_ne (a := 10) (c := 7) (by decide) (by decide) (by decide)), if_neg (nI_ne (a := 10) (c := 8) (by decide) (by decide) (by decide)), if_neg (nI_ne (a := 10) (c := 9) (by decide) (by decide) (by decide)), if_pos rfl, p_R6 hb, obs, p_a6 hb, bd_nI (by omega) (by decide), obs]
    rfl
  | 11, _ =>
    rw [if_neg (nI_ne (a := 11) (c := 7) (by decide) (by decide) (by decide)), if_neg (nI_ne (a := 11) (c := 8) (by decide) (by decide) (by decide)), if_neg (nI_ne (a := 11) (c := 9) (by decide) (by decide) (by decide)), if_neg (nI_ne (a := 11) (c := 10) (by decide) (by decide) (by decide)), if_pos rfl, p_R7 hb, obs, p_a7 hb, bd_nI (by omega) (by decide), obs]
    rfl
  | 12, _ =>
    rw [if_neg (nI_ne (a := 12) (c := 7) (by decide) (by decide) (by decide)), if_neg (nI_ne (a := 12) (c := 8) (by decide) (by decide) (by decide)), if_neg (nI_ne (a := 12) (c := 9) (by decide) (by decide) (by decide)), if_neg (nI_ne (a := 12) (c := 10) (by decide) (by decide) (by decide)), if_neg (nI_ne (a := 12) (c := 11) (by decide) (by decide) (by decide)), if_pos rfl, p_v1 hb, a_flag hb hr8, obs]
    unfold nuF
    rw [if_neg (by decide), if_neg (by decide), if_pos rfl]
    cases flgR (rowP P r) <;> rfl
  | 13, _ =>
    rw [if_neg (nI_ne (a := 13) (c := 7) (by decide) (by decide) (by decide)), if_neg (nI_ne (a := 13) (c := 8) (by decide) (by decide) (by decide)), if_neg (nI_ne (a := 13) (c := 9) (by decide) (by decide) (by decide)), if_neg (nI_ne (a := 13) (c := 10) (by decide) (by decide) (by decide)), if_neg (nI_ne (a := 13) (c := 11) (by decide) (by decide) (by decide)), if_neg (nI_ne (a := 13) (c := 12) (by decide) (by decide) (by decide)), if_pos rfl, p_R8 hb, obs, p_a8 hb, bd_nI (by omega) (by decide), obs]
    rfl
  | 14, _ =>
    rw [if_neg (nI_ne (a := 14) (c := 7) (by decide) (by decide) (by decide)), if_neg (nI_ne (a := 14) (c := 8) (by decide) (by decide) (by decide)), if_neg (nI_ne (a := 14) (c := 9) (by decide) (by decide) (by decide)), if_neg (nI_ne (a := 14) (c := 10) (by decide) (by decide) (by decide)), if_neg (nI_ne (a := 14) (c := 11) (by decide) (by decide) (by decide)), if_neg (nI_ne (a := 14) (c := 12) (by decide) (by decide) (by decide)), if_neg (nI_ne (a := 14) (c := 13) (by decide) (by decide) (by decide)), if_pos rfl, p_R9 hb, obs, p_a9 hb, bd_nI (by omega) (by decide), obs]
    rfl
  | 15, _ =>
    rw [if_neg (nI_ne (a := 15) (c := 7) (by decide) (by decide) (by decide)), if_neg (nI_ne (a := 15) (c := 8) (by decide) (by decide) (by decide)), if_neg (nI_ne (a := 15) (c := 9) (by decide) (by decide) (by decide)), if_neg (nI_ne (a := 15) (c := 10) (by decide) (by decide) (by decide)), if_neg (nI_ne (a := 15) (c := 11) (by decide) (by decide) (by decide)), if_neg (nI_ne (a := 15) (c := 12) (by decide) (by decide) (by decide)), if_neg (nI_ne (a := 15) (c := 13) (by decide) (by decide) (by decide)), if_neg (nI_ne (a := 15) (c := 14) (by decide) (by decide) (by decide)), if_pos rfl, p_R10 hb, obs, p_a10 hb, bd_nI (by omega) (by decide), obs]
    rfl
  | 16, _ =>
    rw [if_neg (nI_ne (a := 16) (c := 7) (by decide) (by decide) (by decide)), if_neg (nI_ne (a := 16) (c := 8) (by decide) (by decide) (by decide)), if_neg (nI_ne (a := 16) (c := 9) (by decide) (by decide) (by decide)), if_neg (nI_ne (a := 16) (c := 10) (by decide) (by decide) (by decide)), if_neg (nI_ne (a := 16) (c := 11) (by decide) (by decide) (by decide)), if_neg (nI_ne (a := 16) (c := 12) (by decide) (by decide) (by decide)), if_neg (nI_ne (a := 16) (c := 13) (by decide) (by decide) (by decide)), if_neg (nI_ne (a := 16) (c := 14) (by decide) (by decide) (by decide)), if_neg (nI_ne (a := 16) (c := 15) (by decide) (by decide) (by decide)), if_pos rfl, p_R11 hb, obs, p_a11 hb, bd_nI (by omega) (by decide), obs]
    rfl
  | 17, _ =>
    rw [if_neg (nI_ne (a := 17) (c := 7) (by decide) (by decide) (by decide)), if_neg (nI_ne (a := 17) (c := 8) (by decide) (by decide) (by decide)), if_neg (nI_ne (a := 17) (c := 9) (by decide) (by decide) (by decide)), if_neg (nI_ne (a := 17) (c := 10) (by decide) (by decide) (by decide)), if_neg (nI_ne (a := 17) (c := 11) (by decide) (by decide) (by decide)), if_neg (nI_ne (a := 17) (c := 12) (by decide) (by decide) (by decide)), if_neg (nI_ne (a := 17) (c := 13) (by decide) (by decide) (by decide)), if_neg (nI_ne (a := 17) (c := 14) (by decide) (by decide) (by decide)), if_neg (nI_ne (a := 17) (c := 15) (by decide) (by decide) (by decide)), if_neg (nI_ne (a := 17) (c := 16) (by decide) (by decide) (by decide)), if_pos rfl, p_R12 hb, obs, p_a12 hb, bd_nI (by omega) (by decide), obs]
    rfl
  | 18, _ =>
    rw [if_neg (nI_ne (a := 18) (c := 7) (by decide) (by decide) (by decide)), if_neg (nI_ne (a := 18) (c := 8) (by decide) (by decide) (by decide)), if_neg (nI_ne (a := 18) (c := 9) (by decide) (by decide) (by decide)), if_neg (nI_ne (a := 18) (c := 10) (by decide) (by decide) (by decide)), if_neg (nI_ne (a := 18) (c := 11) (by decide) (by decide) (by decide)), if_neg (nI_ne (a := 18) (c := 12) (by decide) (by decide) (by decide)), if_neg (nI_ne (a := 18) (c := 13) (by decide) (by decide) (by decide)), if_neg (nI_ne (a := 18) (c := 14) (by decide) (by decide) (by decide)), if_neg (nI_ne (a := 18) (c := 15) (by decide) (by decide) (by decide)), if_neg (nI_ne (a := 18) (c := 16) (by decide) (by decide) (by decide)), if_neg (nI_ne (a := 18) (c := 17) (by decide) (by decide) (by decide)), if_pos rfl, p_v1 hb, a_blame hb hn8 hbl hr, obs]
    rfl
  | w + 19, hw => omega
theorem z_number (hb : b ≤ 134) {P : PV} {M : MV} {n r w : Nat} (h : RZ n P (M.2 1)) (hr : r < n) (hw : w < 19) : f_X4_railNow (hm G b M) b (nI r) (nI w) = some (nuF P n r w) := by
  obtain ⟨hn8, h0, z0, z1, z2, hrow, hwn, hl, hww, hok⟩ := h
  have hr8 : r < 8 := by omega
  have er := hrow r hr
  unfold f_X4_railNow b_X4_railNow_103
  match w, hw with
  | 0, _ =>
    rw [if_neg (nI_ne (a := 0) (c := 8) (by decide) (by decide) (by decide)), if_neg (nI_ne (a := 0) (c := 9) (by decide) (by decide) (by decide)), if_neg (nI_ne (a := 0) (c := 10) (by decide) (by decide) (by decide)), if_neg (nI_ne (a := 0) (c := 11) (by decide) (by decide) (by decide)), if_neg (nI_ne (a := 0) (c := 12) (by decide) (by decide) (by decide)), if_neg (nI_ne (a := 0) (c := 13) (by decide) (by decide) (by decide)), if_neg (nI_ne (a := 0) (c := 14) (by decide) (by decide) (by decide)), if_neg (nI_ne (a := 0) (c := 15) (by decide) (by decide) (by decide)), if_neg (nI_ne (a := 0) (c := 16) (by decide) (by decide) (by decide)), if_neg (nI_ne (a := 0) (c := 17) (by decide) (by decide) (by decide)), if_neg (nI_ne (a := 0) (c := 18) (by decide) (by decide) (by decide)), show nI 0 = (0 : Int32) from rfl, m_v hb, m_of0 hb hr8, obs, ← er]
    rfl
  | 1, _ =>
    rw [if_neg (nI_ne (a := 1) (c := 8) (by decide) (by decide) (by decide)), if_neg (nI_ne (a := 1) (c := 9) (by decide) (by decide) (by decide)), if_neg (nI_ne (a := 1) (c := 10) (by decide) (by decide) (by decide)), if_neg (nI_ne (a := 1) (c := 11) (by decide) (by decide) (by decide)), if_neg (nI_ne (a := 1) (c := 12) (by decide) (by decide) (by decide)), if_neg (nI_ne (a := 1) (c := 13) (by decide) (by decide) (by decide)), if_neg (nI_ne (a := 1) (c := 14) (by decide) (by decide) (by decide)), if_neg (nI_ne (a := 1) (c := 15) (by decide) (by decide) (by decide)), if_neg (nI_ne (a := 1) (c := 16) (by decide) (by decide) (by decide)), if_neg (nI_ne (a := 1) (c := 17) (by decide) (by decide) (by decide)), if_neg (nI_ne (a := 1) (c := 18) (by decide) (by decide) (by decide)), show nI 1 = (1 : Int32) from rfl, m_v hb, m_of1 hb hr8, obs, ← er]
    rfl
  | 2, _ =>
    rw [if_neg (nI_ne (a := 2) (c := 8) (by decide) (by decide) (by decide)), if_neg (nI_ne (a := 2) (c := 9) (by decide) (by decide) (by decide)), if_neg (nI_ne (a := 2) (c := 10) (by decide) (by decide) (by decide)), if_neg (nI_ne (a := 2) (c := 11) (by decide) (by decide) (by decide)), if_neg (nI_ne (a := 2) (c := 12) (by decide) (by decide) (by decide)), if_neg (nI_ne (a := 2) (c := 13) (by decide) (by decide) (by decide)), if_neg (nI_ne (a := 2) (c := 14) (by decide) (by decide) (by decide)), if_neg (nI_ne (a := 2) (c := 15) (by decide) (by decide) (by decide)), if_neg (nI_ne (a := 2) (c := 16) (by decide) (by decide) (by decide)), if_neg (nI_ne (a := 2) (c := 17) (by decide) (by decide) (by decide)), if_neg (nI_ne (a := 2) (c := 18) (by decide) (by decide) (by decide)), show nI 2 = (2 : Int32) from rfl, m_v hb, m_of2 hb hr8, obs, ← er]
    rfl
  | 3, _ =>
    rw [if_neg (nI_ne (a := 3) (c := 8) (by decide) (by decide) (by decide)), if_neg (nI_ne (a := 3) (c := 9) (by decide) (by decide) (by decide)), if_neg (nI_ne (a := 3) (c := 10) (by decide) (by decide) (by decide)), if_neg (nI_ne (a := 3) (c := 11) (by decide) (by decide) (by decide)), if_neg (nI_ne (a := 3) (c := 12) (by decide) (by decide) (by decide)), if_neg (nI_ne (a := 3) (c := 13) (by decide) (by decide) (by decide)), if_neg (nI_ne (a := 3) (c := 14) (by decide) (by decide) (by decide)), if_neg (nI_ne (a := 3) (c := 15) (by decide) (by decide) (by decide)), if_neg (nI_ne (a := 3) (c := 16) (by decide) (by decide) (by decide)), if_neg (nI_ne (a := 3) (c := 17) (by decide) (by decide) (by decide)), if_neg (nI_ne (a := 3) (c := 18) (by decide) (by decide) (by decide)), show nI 3 = (3 : Int32) from rfl, m_v hb, m_of3 hb hr8, obs, ← er]
    rfl
  | 4, _ =>
    rw [if_neg (nI_ne (a := 4) (c := 8) (by decide) (by decide) (by decide)), if_neg (nI_ne (a := 4) (c := 9) (by decide) (by decide) (by decide)), if_neg (nI_ne (a := 4) (c := 10) (by decide) (by decide) (by decide)), if_neg (nI_ne (a := 4) (c := 11) (by decide) (by decide) (by decide)), if_neg (nI_ne (a := 4) (c := 12) (by decide) (by decide) (by decide)), if_neg (nI_ne (a := 4) (c := 13) (by decide) (by decide) (by decide)), if_neg (nI_ne (a := 4) (c := 14) (by decide) (by decide) (by decide)), if_neg (nI_ne (a := 4) (c := 15) (by decide) (by decide) (by decide)), if_neg (nI_ne (a := 4) (c := 16) (by decide) (by decide) (by decide)), if_neg (nI_ne (a := 4) (c := 17) (by decide) (by decide) (by decide)), if_neg (nI_ne (a := 4) (c := 18) (by decide) (by decide) (by decide)), show nI 4 = (4 : Int32) from rfl, m_v hb, m_of4 hb hr8, obs, ← er]
    rfl
  | 5, _ =>
    rw [if_neg (nI_ne (a := 5) (c := 8) (by decide) (by decide) (by decide)), if_neg (nI_ne (a := 5) (c := 9) (by decide) (by decide) (by decide)), if_neg (nI_ne (a := 5) (c := 10) (by decide) (by decide) (by decide)), if_neg (nI_ne (a := 5) (c := 11) (by decide) (by decide) (by decide)), if_neg (nI_ne (a := 5) (c := 12) (by decide) (by decide) (by decide)), if_neg (nI_ne (a := 5) (c := 13) (by decide) (by decide) (by decide)), if_neg (nI_ne (a := 5) (c := 14) (by decide) (by decide) (by decide)), if_neg (nI_ne (a := 5) (c := 15) (by decide) (by decide) (by decide)), if_neg (nI_ne (a := 5) (c := 16) (by decide) (by decide) (by decide)), if_neg (nI_ne (a := 5) (c := 17) (by decide) (by decide) (by decide)), if_neg (nI_ne (a := 5) (c := 18) (by decide) (by decide) (by decide)), show nI 5 = (5 : Int32) from rfl, m_v hb, m_of5 hb hr8, obs, ← er]
    rfl
  | 6, _ =>
    rw [if_neg (nI_ne (a := 6) (c := 8) (by decide) (by decide) (by decide)), if_neg (nI_ne (a := 6) (c := 9) (by decide) (by decide) (by decide)), if_neg (nI_ne (a := 6) (c := 10) (by decide) (by decide) (by decide)), if_neg (nI_ne (a := 6) (c := 11) (by decide) (by decide) (by decide)), if_neg (nI_ne (a := 6) (c := 12) (by decide) (by decide) (by decide)), if_neg (nI_ne (a := 6) (c := 13) (by decide) (by decide) (by decide)), if_neg (nI_ne (a := 6) (c := 14) (by decide) (by decide) (by decide)), if_neg (nI_ne (a := 6) (c := 15) (by decide) (by decide) (by decide)), if_neg (nI_ne (a := 6) (c := 16) (by decide) (by decide) (by decide)), if_neg (nI_ne (a := 6) (c := 17) (by decide) (by decide) (by decide)), if_neg (nI_ne (a := 6) (c := 18) (by decide) (by decide) (by decide)), show nI 6 = (6 : Int32) from rfl, m_v hb, m_of6 hb hr8, obs, ← er]
    rfl
  | 7, _ =>
    rw [if_neg (nI_ne (a := 7) (c := 8) (by decide) (by decide) (by decide)), if_neg (nI_ne (a := 7) (c := 9) (by decide) (by decide) (by decide)), if_neg (nI_ne (a := 7) (c := 10) (by decide) (by decide) (by decide)), if_neg (nI_ne (a := 7) (c := 11) (by decide) (by decide) (by decide)), if_neg (nI_ne (a := 7) (c := 12) (by decide) (by decide) (by decide)), if_neg (nI_ne (a := 7) (c := 13) (by decide) (by decide) (by decide)), if_neg (nI_ne (a := 7) (c := 14) (by decide) (by decide) (by decide)), if_neg (nI_ne (a := 7) (c := 15) (by decide) (by decide) (by decide)), if_neg (nI_ne (a := 7) (c := 16) (by decide) (by decide) (by decide)), if_neg (nI_ne (a := 7) (c := 17) (by decide) (by decide) (by decide)), if_neg (nI_ne (a := 7) (c := 18) (by decide) (by decide) (by decide)), show nI 7 = (7 : Int32) from rfl, m_v hb, m_of7 hb hr8, obs, ← er]
    rfl
  | 8, _ =>
    rw [if_pos rfl, m_v hb, z_foll hb z0 hn8 hr (nd := P.2 5) (fun j hj => by
      have e := congrFun (hrow j hj) 7
      rw [rz_in (by decide)] at e
      exact e.symm) (fun j hj => (hok j hj).2.2.2.2.1), obs]
    rfl
  | 9, _ =>
    rw [if_neg (nI_ne (a := 9) (c := 8) (by decide) (by decide) (by decide)), if_pos rfl, m_v hb, m_of8 hb hr8, obs, hwn r hr]
    rfl
  | 10, _ =>
    rw [if_neg (nI_ne (a := 10) (c := 8) (by decide) (by decide) (by decide)), if_neg (nI_ne (a := 10) (c := 9) (by decide) (by decide) (by decide)), if_pos rfl, m_v hb, m_of9 hb hr8, obs, ← er]
    rfl
  | 11, _ =>
    rw [if_neg (nI_ne (a := 11) (c := 8) (by decide) (by decide) (by decide)), if_neg (nI_ne (a := 11) (c := 9) (by decide) (by decide) (by decide)), if_neg (nI_ne (a := 11) (c := 10) (by decide) (by decide) (by decide)), if_pos rfl, m_v hb, m_of10 hb hr8, obs, ← er]
    rfl
  | 12, _ =>
    rw [if_neg (nI_ne (a := 12) (c := 8) (by decide) (by decide) (by decide)), if_neg (nI_ne (a := 12) (c := 9) (by decide) (by decide) (by decide)), if_neg (nI_ne (a := 12) (c := 10) (by decide) (by decide) (by decide)), if_neg (nI_ne (a := 12) (c := 11) (by decide) (by decide) (by decide)), if_pos rfl, m_v hb, z_flag hb hr8, obs, ← er]
    unfold nuF
    rw [if_neg (by decide), if_neg (by decide), if_pos rfl]
    cases flgR (rowP P r) <;> rfl
  | 13, _ =>
    rw [if_neg (nI_ne (a := 13) (c := 8) (by decide) (by decide) (by decide)), if_neg (nI_ne (a := 13) (c := 9) (by decide) (by decide) (by decide)), if_neg (nI_ne (a := 13) (c := 10) (by decide) (by decide) (by decide)), if_neg (nI_ne (a := 13) (c := 11) (by decide) (by decide) (by decide)), if_neg (nI_ne (a := 13) (c := 12) (by decide) (by decide) (by decide)), if_pos rfl, m_v hb, m_of11 hb hr8, obs, ← er]
    rfl
  | 14, _ =>
    rw [if_neg (nI_ne (a := 14) (c := 8) (by decide) (by decide) (by decide)), if_neg (nI_ne (a := 14) (c := 9) (by decide) (by decide) (by decide)), if_neg (nI_ne (a := 14) (c := 10) (by decide) (by decide) (by decide)), if_neg (nI_ne (a := 14) (c := 11) (by decide) (by decide) (by decide)), if_neg (nI_ne (a := 14) (c := 12) (by decide) (by decide) (by decide)), if_neg (nI_ne (a := 14) (c := 13) (by decide) (by decide) (by decide)), if_pos rfl, m_v hb, m_of12 hb hr8, obs, ← er]
    rfl
  | 15, _ =>
    rw [if_neg (nI_ne (a := 15) (c := 8) (by decide) (by decide) (by decide)), if_neg (nI_ne (a := 15) (c := 9) (by decide) (by decide) (by decide)), if_neg (nI_ne (a := 15) (c := 10) (by decide) (by decide) (by decide)), if_neg (nI_ne (a := 15) (c := 11) (by decide) (by decide) (by decide)), if_neg (nI_ne (a := 15) (c := 12) (by decide) (by decide) (by decide)), if_neg (nI_ne (a := 15) (c := 13) (by decide) (by decide) (by decide)), if_neg (nI_ne (a := 15) (c := 14) (by decide) (by decide) (by decide)), if_pos rfl, m_v hb, m_of13 hb hr8, obs, ← er]
    rfl
  | 16, _ =>
    rw [if_neg (nI_ne (a := 16) (c := 8) (by decide) (by decide) (by decide)), if_neg (nI_ne (a := 16) (c := 9) (by decide) (by decide) (by decide)), if_neg (nI_ne (a := 16) (c := 10) (by decide) (by decide) (by decide)), if_neg (nI_ne (a := 16) (c := 11) (by decide) (by decide) (by decide)), if_neg (nI_ne (a := 16) (c := 12) (by decide) (by decide) (by decide)), if_neg (nI_ne (a := 16) (c := 13) (by decide) (by decide) (by decide)), if_neg (nI_ne (a := 16) (c := 14) (by decide) (by decide) (by decide)), if_neg (nI_ne (a := 16) (c := 15) (by decide) (by decide) (by decide)), if_pos rfl, m_v hb, m_of14 hb hr8, obs, ← er]
    rfl
  | 17, _ =>
    rw [if_neg (nI_ne (a := 17) (c := 8) (by decide) (by decide) (by decide)), if_neg (nI_ne (a := 17) (c := 9) (by decide) (by decide) (by decide)), if_neg (nI_ne (a := 17) (c := 10) (by decide) (by decide) (by decide)), if_neg (nI_ne (a := 17) (c := 11) (by decide) (by decide) (by decide)), if_neg (nI_ne (a := 17) (c := 12) (by decide) (by decide) (by decide)), if_neg (nI_ne (a := 17) (c := 13) (by decide) (by decide) (by decide)), if_neg (nI_ne (a := 17) (c := 14) (by decide) (by decide) (by decide)), if_neg (nI_ne (a := 17) (c := 15) (by decide) (by decide) (by decide)), if_neg (nI_ne (a := 17) (c := 16) (by decide) (by decide) (by decide)), if_pos rfl, m_v hb, m_of15 hb hr8, obs, ← er]
    rfl
  | 18, _ =>
    rw [if_neg (nI_ne (a := 18) (c := 8) (by decide) (by decide) (by decide)), if_neg (nI_ne (a := 18) (c := 9) (by decide) (by decide) (by decide)), if_neg (nI_ne (a := 18) (c := 10) (by decide) (by decide) (by decide)), if_neg (nI_ne (a := 18) (c := 11) (by decide) (by decide) (by decide)), if_neg (nI_ne (a := 18) (c := 12) (by decide) (by decide) (by decide)), if_neg (nI_ne (a := 18) (c := 13) (by decide) (by decide) (by decide)), if_neg (nI_ne (a := 18) (c := 14) (by decide) (by decide) (by decide)), if_neg (nI_ne (a := 18) (c := 15) (by decide) (by decide) (by decide)), if_neg (nI_ne (a := 18) (c := 16) (by decide) (by decide) (by decide)), if_neg (nI_ne (a := 18) (c := 17) (by decide) (by decide) (by decide)), if_pos rfl, m_v hb, z_blame hb (bl := P.2 12) hn8 (fun i hi => by rw [← hrow i hi]; rfl) (fun i hi => (hok i hi).2.2.2.2.2.2.2.2) hr, obs]
    rfl
  | w + 19, hw => omega
theorem z_rail28 (hb : b ≤ 134) {M : MV} (x k c : Int32) : b_X4_rail_28 (hm G b M) b x k b c = if c ≤ 0 then (f_X4_railNow (hm G b (mS M 0 c)) b x k).bind (fun v => some (v, hm G b (mS M 0 c))) else some (0, hm G b (mS M 0 c)) := by
  unfold b_X4_rail_28 b_X4_rail_48
  simp only [m_P0 hb, m_I0 hb, m_v hb, obs, mS_0]
variable {T : TS}
theorem op_rail {n s : Nat} (h : INV T n s) (x k : Int32) : OKc T (f_L_rail (HT T) 0 x k 140) (fun h => vcall h 4 133 (f_X4_rail h 133 x k)) := by
  have h' := h
  obtain ⟨hs, hS, hM, hσ, hz, ha, hv, hbf⟩ := h'
  have hz' := hz
  obtain ⟨hn8, h0, z0, z1, z2, hrow, hw, hl, hwn, hok⟩ := hz'
  have hb : 133 ≤ 134 := by decide
  unfold f_L_rail
  rw [t_v3]
  rcases rail_cases hn8 x with ⟨r, hr, rfl⟩ | hx
  · have hR := rail_not hn8 hr
    by_cases hk : k < 0 ∨ nI 19 ≤ k
    · have e1 : f_X3_rail (HT T) 0 (nI r) k = some (.inl (0, HT T)) := by
        unfold f_X3_rail b_X3_rail_28
        rw [t_v3, c_isRail h0, obs, if_neg hR, if_neg n10]
        by_cases hk0 : k < 0
        · rw [if_pos hk0]
        · rw [if_neg hk0, if_neg]
          rcases hk with hk | hk
          · exact absurd hk hk0
          · rw [Int32.not_lt]; exact hk
      rw [e1]
      refine OK_no h (c := 2) (by decide) rfl (fun G => ?_)
      have hout : k < 0 ∨ (18 : Int32) < k := out_of (n := 19) (p := 18) (by decide) (by decide) hk rfl
      unfold f_X4_rail
      rw [m_v hb, z_isRail hb z0 hn8, obs, if_neg hR, if_neg n10, z_within, obs, if_pos hout, if_pos rfl, z_rail28 hb, if_neg (by decide)]
    · have hkn : ¬ k < 0 := fun hh => hk (Or.inl hh)
      obtain ⟨p, hp31, rfl⟩ := nI_of hkn
      have hp : p < 19 := by
        have : ¬ nI 19 ≤ nI p := fun hh => hk (Or.inr hh)
        rw [nI_leI (by decide) hp31] at this
        omega
      have hk19 : nI p < 19 := by rw [show (19 : Int32) = nI 19 from rfl, nI_ltI (by omega) (by omega)]; exact hp
      have e1 : f_X3_rail (HT T) 0 (nI r) (nI p) = some (.inr (nuF (T.1.2.2 0) n r p, HT T)) := by
        unfold f_X3_rail
        rw [t_v3, c_isRail h0, obs, if_neg hR, if_neg n10, if_neg hkn, if_pos hk19, t_R0, obs, q_v1, HT0 T, a_number (by decide) hn8 h0 (fun i hi => (hok i hi).2.2.2.2.2.2.2.2) hr hp, obs]
      rw [e1]
      refine OK_see h (a := nuF (T.1.2.2 0) n r p) ?_ (fun G => ?_)
      · rw [obs, Sum.elim_inr, t_sL, obs]
      · have hin : ¬ (nI p < 0 ∨ (18 : Int32) < nI p) := in_of (n := 19) (p := 18) (by decide) rfl hp
        unfold f_X4_rail
        rw [m_v hb, z_isRail hb z0 hn8, obs, if_neg hR, if_neg n10, z_within, obs, if_neg hin, if_neg n10, z_rail28 hb, if_pos (by decide), z_number hb (M := mS T.2.2.1 0 0) hz hr hp, obs]
  · have e1 : f_X3_rail (HT T) 0 x k = some (.inl (2, HT T)) := by
      unfold f_X3_rail
      rw [t_v3, c_isRail h0, obs, if_pos hx, if_pos rfl]
    rw [e1]
    refine OK_no h (c := 1) (by decide) rfl (fun G => ?_)
    unfold f_X4_rail
    rw [m_v hb, z_isRail hb z0 hn8, obs, if_pos hx, if_pos rfl, z_rail28 hb, if_neg (by decide)]
