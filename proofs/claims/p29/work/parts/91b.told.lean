/-! the law's rows within the whole; the class tells what the law holds -/
variable {T : TS} {X : LX}
theorem ck0 (T : TS) : CK (gT T) 134 := ⟨Nat.le_refl _, Nat.le_add_right _ _⟩
theorem y_a0 {j : Int32} : aI (HT (uL T 134 X)) 133 j = bd 42 j (X 0) := by rw [HT_uL T (Nat.le_refl _)]; exact l_a0 (ck0 T)
theorem y_a1 {j : Int32} : aI (HT (uL T 134 X)) 134 j = bd 54 j (X 1) := by rw [HT_uL T (Nat.le_refl _)]; exact l_a1 (ck0 T)
theorem y_a2 {j : Int32} : aI (HT (uL T 134 X)) 135 j = bd 24 j (X 2) := by rw [HT_uL T (Nat.le_refl _)]; exact l_a2 (ck0 T)
theorem y_a3 {j : Int32} : aI (HT (uL T 134 X)) 136 j = bd 64 j (X 3) := by rw [HT_uL T (Nat.le_refl _)]; exact l_a3 (ck0 T)
theorem y_a4 {j : Int32} : aI (HT (uL T 134 X)) 137 j = bd 6 j (X 4) := by rw [HT_uL T (Nat.le_refl _)]; exact l_a4 (ck0 T)
theorem y_s0 {j x : Int32} : sI (HT (uL T 134 X)) 133 j x = bd 42 j (fun i => HT (uL T 134 (ux X 0 i x))) := by
  rw [HT_uL T (Nat.le_refl _)]
  refine (l_s0 (ck0 T)).trans (congrArg (bd 42 j) (funext fun i => (HT_uL T (Nat.le_refl _) _).symm))
theorem y_s1 {j x : Int32} : sI (HT (uL T 134 X)) 134 j x = bd 54 j (fun i => HT (uL T 134 (ux X 1 i x))) := by
  rw [HT_uL T (Nat.le_refl _)]
  refine (l_s1 (ck0 T)).trans (congrArg (bd 54 j) (funext fun i => (HT_uL T (Nat.le_refl _) _).symm))
theorem y_s3 {j x : Int32} : sI (HT (uL T 134 X)) 136 j x = bd 64 j (fun i => HT (uL T 134 (ux X 3 i x))) := by
  rw [HT_uL T (Nat.le_refl _)]
  refine (l_s3 (ck0 T)).trans (congrArg (bd 64 j) (funext fun i => (HT_uL T (Nat.le_refl _) _).symm))
theorem y_s4 {j x : Int32} : sI (HT (uL T 134 X)) 137 j x = bd 6 j (fun i => HT (uL T 134 (ux X 4 i x))) := by
  rw [HT_uL T (Nat.le_refl _)]
  refine (l_s4 (ck0 T)).trans (congrArg (bd 6 j) (funext fun i => (HT_uL T (Nat.le_refl _) _).symm))
theorem y_flag {r : Nat} (hr : r < 6) : f_L_flag (HT (uL T 134 X)) (nI r) 133 134 = some (if flgR (rowX X r) = true then 1 else 0) := by rw [HT_uL T (Nat.le_refl _)]; exact l_flag (ck0 T) hr
theorem y_mask {n p : Nat} (hn : X 4 0 = nI n) (hn6 : n ≤ 6) (hp : p < 9) (v : Int32) : f_L_mask (HT (uL T 134 X)) (nI p) v 134 137 = some (nI (mkN (fun q => decide (X 1 (9 * q + p) = v)) n)) := by rw [HT_uL T (Nat.le_refl _)]; exact l_mask (ck0 T) hn hn6 hp v
theorem y_up {n : Nat} (hn : X 4 0 = nI n) (hn6 : n ≤ 6) (hnd : ∀ i, i < n → (X 1 (9 * i)).toBitVec.toNat < 2 ^ i) (x : Int32) : f_L_closed (HT (uL T 134 X)) x 1 134 137 = some (foF (fun q => X 1 (9 * q)) n 0 x) := by rw [HT_uL T (Nat.le_refl _)]; exact l_up (ck0 T) hn hn6 hnd x
theorem y_dn {n : Nat} (hn : X 4 0 = nI n) (hn6 : n ≤ 6) (hnd : ∀ i, i < n → (X 1 (9 * i)).toBitVec.toNat < 2 ^ i) (x : Int32) : f_L_closed (HT (uL T 134 X)) x 0 134 137 = some (wnF (fun q => X 1 (9 * q)) n x) := by rw [HT_uL T (Nat.le_refl _)]; exact l_dn (ck0 T) hn hn6 hnd x
theorem y_patience {r a u d : Nat} (hr : r < 6) (ha : 100 ≤ a ∧ a ≤ 5000) (hu : 1 ≤ u ∧ u ≤ 1000) (hd : 50 ≤ d ∧ d ≤ 100) (ea : rowX X r 0 = nI a) (eu : rowX X r 1 = nI u) (ed : rowX X r 3 = nI d) : f_L_patience (HT (uL T 134 X)) (nI r) 133 = some (lpF a u d 200 1) := by rw [HT_uL T (Nat.le_refl _)]; exact l_patience (ck0 T) hr ha hu hd ea eu ed
theorem fo_congr {nd nd' : Nat → Int32} {n : Nat} (h : ∀ q, q < n → nd q = nd' q) : ∀ (m k : Nat) (x : Int32), k + m ≤ n → foF nd m k x = foF nd' m k x := by
  intro m
  induction m with
  | zero => intro k x _; rfl
  | succ m ih =>
    intro k x hk
    unfold foF
    rw [h k (by omega), ih (k + 1) _ (by omega)]
theorem wn_congr {nd nd' : Nat → Int32} : ∀ (k : Nat) (x : Int32), (∀ q, q < k → nd q = nd' q) → wnF nd k x = wnF nd' k x := by
  intro k
  induction k with
  | zero => intro x _; rfl
  | succ k ih =>
    intro x h
    unfold wnF
    rw [h k (by omega), ih _ (fun q hq => h q (by omega))]
theorem rx_p (X : LX) (r : Nat) {k : Nat} (hk : k < 7) : X 0 (7 * r + k) = rowX X r k := by
  match k, hk with
  | 0, _ => rfl
  | 1, _ => rfl
  | 2, _ => rfl
  | 3, _ => rfl
  | 4, _ => rfl
  | 5, _ => rfl
  | 6, _ => rfl
  | k + 7, h => omega
theorem rx_a (X : LX) (r : Nat) {k : Nat} (hk : k < 4) : X 2 (4 * r + k) = rowX X r (16 + k) := by
  match k, hk with
  | 0, _ => rfl
  | 1, _ => rfl
  | 2, _ => rfl
  | 3, _ => rfl
  | k + 4, h => omega
theorem rx_s (X : LX) (r : Nat) {k : Nat} (hk : k < 5) : X 1 (9 * r + (k + 4)) = rowX X r (k + 11) := by
  match k, hk with
  | 0, _ => rfl
  | 1, _ => rfl
  | 2, _ => rfl
  | 3, _ => rfl
  | 4, _ => rfl
  | k + 5, h => omega
theorem v_countS {n s w : Nat} (hS : T.1.1 3 = nI s) (hn8 : n ≤ 8) (h0 : (T.1.2.2 0).1 0 = nI n) (hw : w < 9) : f_X3_countOf (HT T) 0 (nI w) = some (coF (T.1.2.2 0) n s w, HT T) := by
  have hb : 1 ≤ 122 := by decide
  unfold f_X3_countOf
  match w, hw with
  | 0, _ =>
    rw [if_pos (show nI 0 = (0 : Int32) from rfl), t_R0, obs, q_I0, obs]
    rfl
  | 1, _ =>
    rw [if_neg (show ¬ nI 1 = (0 : Int32) from nI_ne (by decide) (by decide) (by decide)), if_pos (show nI 1 = (1 : Int32) from rfl), t_R0, obs, q_I1, obs]
    rfl
  | 2, _ =>
    rw [if_neg (show ¬ nI 2 = (0 : Int32) from nI_ne (by decide) (by decide) (by decide)), if_neg (show ¬ nI 2 = (1 : Int32) from nI_ne (by decide) (by decide) (by decide)), if_pos (show nI 2 = (2 : Int32) from rfl), t_R0, obs, q_I2, obs]
    rfl
  | 3, _ =>
    rw [if_neg (show ¬ nI 3 = (0 : Int32) from nI_ne (by decide) (by decide) (by decide)), if_neg (show ¬ nI 3 = (1 : Int32) from nI_ne (by decide) (by decide) (by decide)), if_neg (show ¬ nI 3 = (2 : Int32) from nI_ne (by decide) (by decide) (by decide)), if_pos (show nI 3 = (3 : Int32) from rfl), t_R0, obs, q_I3, obs]
    rfl
  | 4, _ =>
    rw [if_neg (show ¬ nI 4 = (0 : Int32) from nI_ne (by decide) (by decide) (by decide)), if_neg (show ¬ nI 4 = (1 : Int32) from nI_ne (by decide) (by decide) (by decide)), if_neg (show ¬ nI 4 = (2 : Int32) from nI_ne (by decide) (by decide) (by decide)), if_neg (show ¬ nI 4 = (3 : Int32) from nI_ne (by decide) (by decide) (by decide)), if_pos (show nI 4 = (4 : Int32) from rfl), t_R0, obs, q_v1, HT0 T, a_maskOf hb hn8 h0, obs]
    rfl
  | 5, _ =>
    rw [if_neg (show ¬ nI 5 = (0 : Int32) from nI_ne (by decide) (by decide) (by decide)), if_neg (show ¬ nI 5 = (1 : Int32) from nI_ne (by decide) (by decide) (by decide)), if_neg (show ¬ nI 5 = (2 : Int32) from nI_ne (by decide) (by decide) (by decide)), if_neg (show ¬ nI 5 = (3 : Int32) from nI_ne (by decide) (by decide) (by decide)), if_neg (show ¬ nI 5 = (4 : Int32) from nI_ne (by decide) (by decide) (by decide)), if_pos (show nI 5 = (5 : Int32) from rfl), t_R0, obs, q_v1, HT0 T, a_maskOf hb hn8 h0, obs]
    rfl
  | 6, _ =>
    rw [if_neg (show ¬ nI 6 = (0 : Int32) from nI_ne (by decide) (by decide) (by decide)), if_neg (show ¬ nI 6 = (1 : Int32) from nI_ne (by decide) (by decide) (by decide)), if_neg (show ¬ nI 6 = (2 : Int32) from nI_ne (by decide) (by decide) (by decide)), if_neg (show ¬ nI 6 = (3 : Int32) from nI_ne (by decide) (by decide) (by decide)), if_neg (show ¬ nI 6 = (4 : Int32) from nI_ne (by decide) (by decide) (by decide)), if_neg (show ¬ nI 6 = (5 : Int32) from nI_ne (by decide) (by decide) (by decide)), if_pos (show nI 6 = (6 : Int32) from rfl), t_R0, obs, q_R14, obs, q_lI, obs]
    rfl
  | 7, _ =>
    rw [if_neg (show ¬ nI 7 = (0 : Int32) from nI_ne (by decide) (by decide) (by decide)), if_neg (show ¬ nI 7 = (1 : Int32) from nI_ne (by decide) (by decide) (by decide)), if_neg (show ¬ nI 7 = (2 : Int32) from nI_ne (by decide) (by decide) (by decide)), if_neg (show ¬ nI 7 = (3 : Int32) from nI_ne (by decide) (by decide) (by decide)), if_neg (show ¬ nI 7 = (4 : Int32) from nI_ne (by decide) (by decide) (by decide)), if_neg (show ¬ nI 7 = (5 : Int32) from nI_ne (by decide) (by decide) (by decide)), if_neg (show ¬ nI 7 = (6 : Int32) from nI_ne (by decide) (by decide) (by decide)), if_pos (show nI 7 = (7 : Int32) from rfl), t_R0, obs, q_v1, HT0 T]
    unfold f_X1_sumOfVoltages
    rw [show (0 : Int32) = nI 0 from rfl, a_sumLoop hb hn8 h0 n 0 FU _ (by omega) (by rw [FU_eq]; omega), obs]
    rfl
  | 8, _ =>
    rw [if_neg (show ¬ nI 8 = (0 : Int32) from nI_ne (by decide) (by decide) (by decide)), if_neg (show ¬ nI 8 = (1 : Int32) from nI_ne (by decide) (by decide) (by decide)), if_neg (show ¬ nI 8 = (2 : Int32) from nI_ne (by decide) (by decide) (by decide)), if_neg (show ¬ nI 8 = (3 : Int32) from nI_ne (by decide) (by decide) (by decide)), if_neg (show ¬ nI 8 = (4 : Int32) from nI_ne (by decide) (by decide) (by decide)), if_neg (show ¬ nI 8 = (5 : Int32) from nI_ne (by decide) (by decide) (by decide)), if_neg (show ¬ nI 8 = (6 : Int32) from nI_ne (by decide) (by decide) (by decide)), if_neg (show ¬ nI 8 = (7 : Int32) from nI_ne (by decide) (by decide) (by decide)), if_pos (show nI 8 = (8 : Int32) from rfl), t_I3, obs, hS]
    rfl
  | w + 9, hw => omega
theorem v_count {n s w : Nat} (hS : T.1.1 3 = nI s) (hn8 : n ≤ 8) (h0 : (T.1.2.2 0).1 0 = nI n) (hw : w < 9) : f_X3_count (HT T) 0 (nI w) = some (coF (T.1.2.2 0) n s w, HT T) := by
  rw [v_count0 (by omega), v_countS hS hn8 h0 hw, obs]
/-- all that the law holds of the class -/
def RLT (T : TS) (X : LX) (n s : Nat) : Prop := RX n (T.1.2.2 0) X ∧ IC T s ∧ AZ n (T.1.2.2 0)
theorem share_told {n s : Nat} (h : RLT T X n s) : ∃ x : UInt64, f_X3_goodShare (HT T) 0 = some x ∧ ((T.1.2.2 0).1 1 * nI n = 0 → x = 0) ∧ (¬ (T.1.2.2 0).1 1 * nI n = 0 → ∃ y, fdmul (4607182418800017408 : UInt64) (FP.i2d (suF (rowP (T.1.2.2 0)) 19 n 0 0)) = some y ∧ fddiv y (FP.i2d ((T.1.2.2 0).1 1 * nI n)) = some x) ∧ (Op.cmpValue (FP.dcmp x x) .l) = 0 := by
  obtain ⟨hx, hi, ha⟩ := h
  have hn8 : n ≤ 8 := Nat.le_trans hx.1 (by decide)
  have h0 := hx.2.1
  obtain ⟨t, t1, t2, t3⟩ := nat_of (by decide) ha.1
  have hall : (T.1.2.2 0).1 1 * nI n = nI (t * n) := by rw [t3, pk_mul]
  have htn : t * n ≤ 20000 * 8 := Nat.mul_le_mul (by omega) hn8
  obtain ⟨g, g1, g2⟩ := su_nat (V := rowP (T.1.2.2 0)) (n := n) (t := t) (fun q hq => by
    have := ha.2 q hq
    rw [t3, nI_toInt (by omega)] at this
    exact this) (by omega) n 0 0 (by omega)
  rw [Nat.zero_add, show nI 0 = (0 : Int32) from rfl] at g1
  rw [v_share hn8 h0, hall, g1]
  by_cases h00 : t * n = 0
  · rw [h00, if_pos (by decide)]
    exact ⟨0, rfl, fun _ => rfl, fun hh => absurd (by decide) hh, cmp_00⟩
  · have hnz : ¬ nI (t * n) = 0 := fun hh => h00 ((nI_zero (by omega)).mp hh)
    obtain ⟨x, x1, x4, x2⟩ := share9 g (t * n) (by omega) g2 (by omega)
    rw [if_neg hnz, x1, obs]
    exact ⟨x, rfl, fun hh => absurd hh hnz, fun _ => x4, x2⟩
theorem share_told_eq {n s : Nat} (_ : RLT T X n s) {x : UInt64} (h : f_X3_goodShare (HT T) 0 = some x) : f_X3_goodShare (HT (uL T 134 X)) 0 = some x := by
  obtain ⟨hx, hi, ha⟩ := (by assumption : RLT T X n s)
  have hn8 : n ≤ 8 := Nat.le_trans hx.1 (by decide)
  rw [v_share hn8 hx.2.1] at h
  rw [v_share (T := uL T 134 X) hn8 hx.2.1]
  exact h
