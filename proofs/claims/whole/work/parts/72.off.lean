/-! commands: off -/
theorem tb_bit {k q : Nat} (hk : k < 31) : tb ((1 : Int32) <<< (nI k &&& 31)) q = decide (k = q) := by
  have hp : 2 ^ k ≤ 2 ^ 30 := Nat.pow_le_pow_right (by decide) (by omega)
  rw [nI_bit hk, tb_nI (by omega), Nat.testBit_two_pow]
theorem tb_andn (x y : Int32) {q : Nat} (hq : q < 32) : tb (x &&& (y ^^^ (-1 : Int32))) q = (tb x q && !tb y q) := by
  show (x.toBitVec &&& (y.toBitVec ^^^ BitVec.allOnes 32)).getLsbD q = (x.toBitVec.getLsbD q && !y.toBitVec.getLsbD q)
  rw [BitVec.getLsbD_and, BitVec.getLsbD_xor, BitVec.getLsbD_allOnes]
  simp only [hq, decide_true]
  cases x.toBitVec.getLsbD q <;> cases y.toBitVec.getLsbD q <;> rfl
theorem andn_lt {x y : Int32} {n : Nat} (h : x.toBitVec.toNat < 2 ^ n) : (x &&& (y ^^^ (-1 : Int32))).toBitVec.toNat < 2 ^ n := by
  show (x.toBitVec &&& (y.toBitVec ^^^ BitVec.allOnes 32)).toNat < 2 ^ n
  rw [BitVec.toNat_and]
  exact Nat.lt_of_le_of_lt Nat.and_le_left h
/-- a mask with its followers, from k on, m rails -/
def foF (nd : Nat → Int32) : Nat → Nat → Int32 → Int32
  | 0, _, x => x
  | m + 1, k, x => foF nd m (k + 1) (if x &&& nd k = 0 then x else x ||| ((1 : Int32) <<< (nI k &&& 31)))
theorem fo_lo {nd : Nat → Int32} : ∀ (m k : Nat) (x : Int32) (q : Nat), k + m ≤ 31 → q < k → tb (foF nd m k x) q = tb x q := by
  intro m
  induction m with
  | zero => intro k x q _ _; rfl
  | succ m ih =>
    intro k x q hk hq
    unfold foF
    rw [ih (k + 1) _ q (by omega) (by omega)]
    split
    · rfl
    · rw [tb_or, tb_bit (by omega), decide_eq_false (by omega), Bool.or_false]
variable {G : Nat → MC} {b : Nat}
theorem a_follLoop (hb : b ≤ 125) {P : PV} {n : Nat} (h0 : P.1 0 = nI n) (hn8 : n ≤ 8) : ∀ (m k fuel : Nat) (x : Int32), k + m = n → m < fuel → f_X1_withFollowers_4 (hp G b P) fuel b x (nI k) = some (foF (P.2 5) m k x) := by
  intro m
  induction m with
  | zero =>
    intro k fuel x hk hf
    obtain ⟨fuel, rfl⟩ : ∃ f, fuel = f + 1 := ⟨fuel - 1, by omega⟩
    show b_X1_withFollowers_4 _ _ _ _ _ = _
    unfold b_X1_withFollowers_4
    rw [p_I0 hb, obs, h0, if_pos (nI_le (by omega) (by omega))]
    rfl
  | succ m ih =>
    intro k fuel x hk hf
    obtain ⟨fuel, rfl⟩ : ∃ f, fuel = f + 1 := ⟨fuel - 1, by omega⟩
    show b_X1_withFollowers_4 _ _ _ _ _ = _
    unfold b_X1_withFollowers_4 b_X1_withFollowers_29 foF
    rw [p_I0 hb, obs, h0, if_neg (nI_ge (by omega) (by omega)), p_R5 hb, obs, p_a5 hb, bd_nI (by omega) (by decide), obs, nI_1]
    by_cases ht : x &&& P.2 5 k = 0
    · rw [if_pos ht, if_pos ht]
      exact ih (k + 1) fuel x (by omega) (by omega)
    · rw [if_neg ht, if_neg ht, obs]
      exact ih (k + 1) fuel _ (by omega) (by omega)
theorem z_offLoop (hb : b ≤ 134) {nd : Nat → Int32} {n : Nat} (hn8 : n ≤ 8) {M : MV} : ∀ (m k fuel : Nat) (x : Int32) (z : Nat → Int32), z 0 = nI n → k + m = n → m < fuel → (∀ j, j < n → z (68 + 20 * j + 7) = nd j) →
    ∃ z', f_X4_unwant_4 fuel (hm G b (wZ M z)) b x (nI k) = some (hm G b (wZ M z')) ∧ (∀ i, (i < 68 ∨ i % 20 ≠ 16) → z' i = z i) ∧ (∀ q, k ≤ q → q < n → z' (68 + 20 * q + 8) = if tb (foF nd m k x) q = true then 0 else z (68 + 20 * q + 8)) ∧ ∀ q, q < k → z' (68 + 20 * q + 8) = z (68 + 20 * q + 8) := by
  intro m
  induction m with
  | zero =>
    intro k fuel x z h0 hk hf hz
    obtain ⟨fuel, rfl⟩ : ∃ f, fuel = f + 1 := ⟨fuel - 1, by omega⟩
    refine ⟨z, ?_, fun _ _ => rfl, fun q h1 h2 => absurd h2 (by omega), fun _ _ => rfl⟩
    show b_X4_unwant_4 _ _ _ _ _ = _
    unfold b_X4_unwant_4
    rw [m_R1 hb, obs, m_a1 hb, b228_0, obs, wZ_z, h0, if_pos (nI_le (by omega) (by omega))]
  | succ m ih =>
    intro k fuel x z h0 hk hf hz
    obtain ⟨fuel, rfl⟩ : ∃ f, fuel = f + 1 := ⟨fuel - 1, by omega⟩
    have hk8 : k < 8 := by omega
    have e0 : x ||| (0 : Int32) = x := by
      apply Int32.toBitVec_inj.1
      show x.toBitVec ||| 0#32 = x.toBitVec
      simp
    have e7 : rowZ ((wZ M z).2 1) k 7 = nd k := by
      rw [rz_in (by decide)]
      exact hz k (by omega)
    have ex : ∀ y : Int32, b_X4_unwant_34 (f_X4_unwant_4 fuel) (hm G b (wZ M z)) b (nI k) x y = f_X4_unwant_4 fuel (hm G b (wZ M (upd z (68 + 20 * k + 8) (if tb (x ||| y) k = true then 0 else z (68 + 20 * k + 8))))) b (x ||| y) (nI (k + 1)) := by
      intro y
      unfold b_X4_unwant_34 b_X4_unwant_59
      rw [obs, z_has _ _ (by omega), obs]
      by_cases ht : tb (x ||| y) k = true
      · rw [if_pos ht, if_neg n10, m_v hb, m_lay8 hb hk8, obs, wZ_wZ, wZ_z, if_pos ht, nI_1]
      · rw [if_neg ht, if_pos rfl, m_v hb, m_of8 hb hk8, obs, m_v hb, m_lay8 hb hk8, obs, wZ_wZ, wZ_z, if_neg ht, nI_1]
    obtain ⟨z', g1, g2, g3, g4⟩ := ih (k + 1) fuel (if x &&& nd k = 0 then x else x ||| ((1 : Int32) <<< (nI k &&& 31))) (upd z (68 + 20 * k + 8) (if tb (if x &&& nd k = 0 then x else x ||| ((1 : Int32) <<< (nI k &&& 31))) k = true then 0 else z (68 + 20 * k + 8))) (by rw [upd_n (by omega)]; exact h0) (by omega) (by omega) (fun j hj => by rw [upd_n (by omega)]; exact hz j hj)
    refine ⟨z', ?_, fun i hi => ?_, fun q hq hqn => ?_, fun q hq => ?_⟩
    · show b_X4_unwant_4 _ _ _ _ _ = _
      unfold b_X4_unwant_4
      rw [m_R1 hb, obs, m_a1 hb, b228_0, obs, wZ_z, h0, if_neg (nI_ge (by omega) (by omega)), m_v hb, m_of7 hb hk8, obs, e7, ex, ex, e0, Int32.and_comm, ← g1]
      by_cases ht : x &&& nd k = 0
      · rw [if_pos ht, if_pos ht]
      · rw [if_neg ht, if_neg ht]
    · rw [g2 i hi, upd_n]
      intro he
      rcases hi with hi | hi
      · omega
      · exact hi (by omega)
    · rw [show foF nd (m + 1) k x = foF nd m (k + 1) (if x &&& nd k = 0 then x else x ||| ((1 : Int32) <<< (nI k &&& 31))) from rfl]
      by_cases hqk : q = k
      · subst hqk
        rw [g4 q (by omega), upd_s, fo_lo m (q + 1) _ q (by omega) (by omega)]
      · rw [g3 q (by omega) hqn, upd_n (by omega)]
    · rw [g4 q (by omega), upd_n (by omega)]
variable {T : TS}
theorem q_foll {n : Nat} (hn8 : n ≤ 8) (h0 : (T.1.2.2 0).1 0 = nI n) (x : Int32) : f_X1_withFollowers (HT T) 1 x = some (foF ((T.1.2.2 0).2 5) n 0 x) := by
  unfold f_X1_withFollowers
  rw [HT0]
  exact a_follLoop (by decide) h0 hn8 n 0 FU x (by omega) (by rw [FU_eq]; omega)
theorem c_off {n s : Nat} (hn8 : n ≤ 8) (hs : s ≤ 6) (hS : T.1.1 3 = nI s) (hσ : σOK T.1.2.1) (h0 : (T.1.2.2 0).1 0 = nI n) (x : Int32) : f_X3_off (HT T) 0 x = if x.toBitVec.toNat < 2 ^ n then some (.inr ((T.1.2.2 0).1 3 &&& (foF ((T.1.2.2 0).2 5) n 0 x ^^^ (-1 : Int32)), HT (uP (svT T s) 0 (wS (T.1.2.2 0) 3 ((T.1.2.2 0).1 3 &&& (foF ((T.1.2.2 0).2 5) n 0 x ^^^ (-1 : Int32))))))) else some (.inl (0, HT T)) := by
  unfold f_X3_off
  rw [t_v3, q_rails hn8 h0, obs]
  by_cases hx : x.toBitVec.toNat < 2 ^ n
  · rw [if_pos hx, if_pos hx, if_neg n10, t_v3, t_save T hs hS hσ, obs, t_R0, obs, q_I3, obs, obs, q_v1, q_foll hn8 (by rw [sv_pl T hσ]; exact h0), obs, sv_pl T hσ, q_P3, obs, t_R0, obs, q_I3, obs, uP_pl, sv_pl T hσ]
    rfl
  · rw [if_neg hx, if_neg hx, if_pos rfl]
theorem z_off20 {M : MV} (x c : Int32) : b_X4_off_20 (hm G 133 M) 133 x 133 c = if c ≤ 0 then (f_X4_save (hm G 133 (mS M 0 c)) 133).bind (fun h3 => (vcall h3 4 133 (f_X4_unwant h3 133 x)).bind fun h4 => (vcall h4 4 133 (f_X4_maskOf h4 133 (8 : Int32) (1 : Int32))).bind fun v5 => some (v5, h4)) else some (0, hm G 133 (mS M 0 c)) := by
  unfold b_X4_off_20
  simp only [m_P0 (show 133 ≤ 134 by decide), m_I0 (show 133 ≤ 134 by decide), m_v (show 133 ≤ 134 by decide), obs, mS_0]
theorem op_off {n s : Nat} (h : INV T n s) (x : Int32) : OKc T (f_L_off (HT T) 0 x 140) (fun h => vcall h 4 133 (f_X4_off h 133 x)) := by
  have h' := h
  obtain ⟨hs, hS, hM, hσ, hz, ha, hv, hbf⟩ := h'
  have hz' := hz
  obtain ⟨hn8, h0, z0, z1, z2, hrow, hw, hl, hwn, hok⟩ := hz'
  have hb : 133 ≤ 134 := by decide
  unfold f_L_off
  rw [t_v3, c_off hn8 hs hS hσ h0]
  by_cases hx : x.toBitVec.toNat < 2 ^ n
  · rw [if_pos hx]
    have hnd : ∀ j, j < n → T.2.2.1.2 1 (68 + 20 * j + 7) = (T.1.2.2 0).2 5 j := by
      intro j hj
      have e := congrFun (hrow j hj) 7
      rw [rz_in (by decide)] at e
      exact e.symm
    refine OK_do1 h (a := (T.1.2.2 0).1 3 &&& (foF ((T.1.2.2 0).2 5) n 0 x ^^^ (-1 : Int32))) (P' := wS (T.1.2.2 0) 3 ((T.1.2.2 0).1 3 &&& (foF ((T.1.2.2 0).2 5) n 0 x ^^^ (-1 : Int32)))) ?_ (fun G => ?_)
    · rw [obs, Sum.elim_inr, t_sL, obs]
      rfl
    · obtain ⟨z', g1, g2, g3, g4⟩ := z_offLoop (G := G) (b := 133) hb (nd := (T.1.2.2 0).2 5) hn8 (M := sM T.2.2.1 s) n 0 FU x (T.2.2.1.2 1) z0 (by omega) (by rw [FU_eq]; omega) hnd
      have hw' : ∀ q, q < n → z' (68 + 20 * q + 8) = if tb ((T.1.2.2 0).1 3 &&& (foF ((T.1.2.2 0).2 5) n 0 x ^^^ (-1 : Int32))) q = true then 1 else 0 := by
        intro q hq
        rw [g3 q (by omega) hq, hw q hq, tb_andn _ _ (by omega)]
        cases tb (foF ((T.1.2.2 0).2 5) n 0 x) q <;> cases tb ((T.1.2.2 0).1 3) q <;> rfl
      have hlt := andn_lt (y := foF ((T.1.2.2 0).2 5) n 0 x) hwn
      refine ⟨wZ (sM T.2.2.1 s) z', n, ?_, rfl, RZ_want hz hlt g2 hw', ⟨ha.1, fun q hq => ha.2 q hq⟩, rfl, rfl, rfl, rfl⟩
      unfold f_X4_off
      rw [m_R1 hb, obs, m_a1 hb, b228_0, obs, z0, m_v hb, z_mask _ _ _ hn8, obs, if_pos hx, if_neg n10, z_off20, if_pos (by decide), z_saveT hb hs hM, obs, m_v hb]
      unfold f_X4_unwant
      rw [show wZ (sM T.2.2.1 s) (T.2.2.1.2 1) = sM T.2.2.1 s from wZ_self (sM T.2.2.1 s), show nI 0 = (0 : Int32) from rfl] at g1
      rw [g1, obs, m_v hb, z_wants hb (M := wZ (sM T.2.2.1 s) z') (n := n) (w := (T.1.2.2 0).1 3 &&& (foF ((T.1.2.2 0).2 5) n 0 x ^^^ (-1 : Int32))) (by rw [wZ_z, g2 0 (Or.inl (by decide))]; exact z0) hn8 (fun q hq => by rw [wZ_z]; exact hw' q hq) hlt, obs]
  · rw [if_neg hx]
    refine OK_no h (c := 1) (by decide) rfl (fun G => ?_)
    unfold f_X4_off
    rw [m_R1 hb, obs, m_a1 hb, b228_0, obs, z0, m_v hb, z_mask _ _ _ hn8, obs, if_neg hx, if_pos rfl, z_off20, if_neg (by decide)]
