/-! load -/
def adL : List (Nat → Int32) → PV → Nat → Bool × PV
  | [], P, _ => (true, P)
  | e :: L, P, n => if n < 8 ∧ (e 3).toBitVec.toNat < 2 ^ n then adL L (add2 P n (e 0) (e 1) (e 2) (e 3)) (n + 1) else (false, P)
def eaB : List (Nat → Int32) → Nat → Bool
  | [], _ => true
  | e :: L, n => decide ((e 3).toBitVec.toNat < 2 ^ n) && eaB L (n + 1)
theorem ad_ea : ∀ (L : List (Nat → Int32)) (P : PV) (n : Nat), n ≤ 8 → (adL L P n).1 = (decide (n + L.length ≤ 8) && eaB L n) := by
  intro L
  induction L with
  | nil =>
    intro P n hn
    show true = (decide (n + 0 ≤ 8) && true)
    rw [decide_eq_true (by omega)]
    rfl
  | cons e L ih =>
    intro P n hn
    unfold adL eaB
    rw [List.length_cons]
    by_cases hc : n < 8 ∧ (e 3).toBitVec.toNat < 2 ^ n
    · rw [if_pos hc, ih _ _ (by omega), decide_eq_true hc.2, Bool.true_and, show n + 1 + L.length = n + (L.length + 1) by omega]
    · rw [if_neg hc]
      by_cases h8 : n < 8
      · rw [decide_eq_false (fun hh => hc ⟨h8, hh⟩), Bool.false_and, Bool.and_false]
      · rw [decide_eq_false (show ¬ n + (L.length + 1) ≤ 8 by omega), Bool.false_and]
/-- the rails that the rest of a text names, the one that is begun first -/
def rst (B : Nat → Int32) : Nat → Nat → RS → List (Nat → Int32)
  | 0, _, R => [roR R]
  | m + 1, k, R => Option.elim (tkS (B k) R) [] (fun R' => if B k = 59 then roR R :: rst B m (k + 1) R' else rst B m (k + 1) R')
theorem rst_rd {B : Nat → Int32} : ∀ (m k : Nat) (R : RS) (L : List (Nat → Int32)), (rdL B m k R L).1 = k + m → (rdL B m k R L).2.2 ++ [roR (rdL B m k R L).2.1] = L ++ rst B m k R := by
  intro m
  induction m with
  | zero => exact fun k R L _ => rfl
  | succ m ih =>
    intro k R L h
    unfold rdL at h ⊢
    unfold rst
    cases ht : tkS (B k) R with
    | none =>
      rw [ht] at h
      have h : k = k + (m + 1) := h
      omega
    | some R' =>
      rw [ht] at h
      have h : (rdL B m (k + 1) R' (if B k = 59 then L ++ [roR R] else L)).1 = k + (m + 1) := h
      have i := ih (k + 1) R' (if B k = 59 then L ++ [roR R] else L) (by rw [h]; omega)
      show (rdL B m (k + 1) R' (if B k = 59 then L ++ [roR R] else L)).2.2 ++ [roR (rdL B m (k + 1) R' (if B k = 59 then L ++ [roR R] else L)).2.1] = L ++ (if B k = 59 then roR R :: rst B m (k + 1) R' else rst B m (k + 1) R')
      rw [i]
      by_cases hc : B k = 59
      · rw [if_pos hc, if_pos hc, List.append_assoc]
        rfl
      · rw [if_neg hc, if_neg hc]
variable {T : TS} {G : Nat → MC}
theorem x_pl (P : PV) (R : RS) : (uR (uP T 1 P) R).1.2.2 1 = P := uP_at T 1 P
theorem x_I0 (P : PV) (R : RS) : hI (HT (uR (uP T 1 P) R)) 1 17 0 = some (P.1 0) := by
  have t := t_pI0 (uR (uP T 1 P) R) (j := 1) (by decide)
  rw [x_pl] at t
  exact t
theorem x_v1 (X : TS) {α : Type} {o : Option α} : vcall (HT X) 1 17 o = o := f_v1 X
theorem x_add {P : PV} {n : Nat} (h0 : P.1 0 = nI n) (hn : n < 8) (R : RS) (x1 x2 x3 x4 : Int32) : f_X1_add (HT (uR (uP T 1 P) R)) 17 x1 x2 x3 x4 = some (HT (uR (uP T 1 (add2 P n x1 x2 x3 x4)) R)) := by
  rw [HT1 (uR (uP T 1 P) R), x_pl, a_add (by decide) h0 hn, hp1]
  show some (HT (uR (uP (uP T 1 P) 1 (add2 P n x1 x2 x3 x4)) R)) = _
  rw [uP_uP]
theorem c_addRead {P : PV} {R : RS} {n : Nat} (hn : n ≤ 8) (h0 : P.1 0 = nI n) : f_X3_addReadRailToFuture (HT (uR (uP T 1 P) R)) 0 = some (if n < 8 ∧ R.2.2.1.toBitVec.toNat < 2 ^ n then (1, HT (uR (uP T 1 (add2 P n (R.2.1 0) (R.2.1 1) (R.2.1 2) R.2.2.1)) R)) else (0, HT (uR (uP T 1 P) R))) := by
  unfold f_X3_addReadRailToFuture b_X3_addReadRailToFuture_32
  rw [t_R1, obs, x_I0, obs, h0]
  by_cases h8 : n < 8
  · rw [if_neg (by rw [show (8 : Int32) = nI 8 from rfl]; exact nI_ge h8 (by decide)), obs, x_I0, obs, h0, t_R6, obs, r_1, obs, c_below _ _ hn, obs]
    by_cases hm : R.2.2.1.toBitVec.toNat < 2 ^ n
    · rw [if_pos hm, if_neg n10, if_pos ⟨h8, hm⟩, obs, obs, r_R, obs, r_a, bd3_0, obs, obs, r_R, obs, r_a, bd3_1, obs, obs, r_R, obs, r_a, bd3_2, obs, obs, r_1, obs, x_v1, x_add h0 h8, obs, i11]
    · rw [if_neg hm, if_pos rfl, if_neg (fun hh => hm hh.2), i01]
  · rw [if_pos (by rw [show (8 : Int32) = nI 8 from rfl]; exact nI_le (by omega) (by omega)), if_neg (fun hh => h8 hh.1), i01]
theorem c_addLoop {l : Nat} (hl : l ≤ 60) (h5 : T.1.1 5 = nI l) : ∀ (m k fuel : Nat) (R : RS) (L : List (Nat → Int32)) (P : PV) (n : Nat), R.1 ≤ 3 → k + m = l → (rdL T.2.1.1 m k R L).1 = l → P.1 0 = nI n → n ≤ 8 → m < fuel → ∃ R', f_X3_addTextToFuture_20 fuel (HT (uR (uP T 1 P) R)) 0 (nI k) = some (if (adL (rst T.2.1.1 m k R) P n).1 = true then 1 else 0, HT (uR (uP T 1 (adL (rst T.2.1.1 m k R) P n).2) R')) := by
  intro m
  induction m with
  | zero =>
    intro k fuel R L P n hp hk hr h0 hn hf
    obtain ⟨fuel, rfl⟩ : ∃ f, fuel = f + 1 := ⟨fuel - 1, by omega⟩
    refine ⟨R, ?_⟩
    show b_X3_addTextToFuture_20 _ _ _ _ = _
    unfold b_X3_addTextToFuture_20 rst
    rw [t_I5, obs, show (uR (uP T 1 P) R).1.1 5 = nI l from h5, if_pos (nI_le (by omega) (by omega)), t_v3, c_addRead hn h0, obs]
    unfold adL
    by_cases hc : n < 8 ∧ R.2.2.1.toBitVec.toNat < 2 ^ n
    · rw [if_pos hc, if_pos (show n < 8 ∧ (roR R 3).toBitVec.toNat < 2 ^ n from hc)]
      unfold adL
      rw [i11, if_pos rfl]
      rfl
    · rw [if_neg hc, if_neg (show ¬ (n < 8 ∧ (roR R 3).toBitVec.toNat < 2 ^ n) from hc), i01, if_neg (show ¬ false = true by decide)]
  | succ m ih =>
    intro k fuel R L P n hp hk hr h0 hn hf
    obtain ⟨fuel, rfl⟩ : ∃ f, fuel = f + 1 := ⟨fuel - 1, by omega⟩
    unfold rdL at hr
    unfold rst
    cases ht : tkS (T.2.1.1 k) R with
    | none =>
      rw [ht] at hr
      have hr : k = l := hr
      omega
    | some R' =>
      rw [ht] at hr
      have hr : (rdL T.2.1.1 m (k + 1) R' (if T.2.1.1 k = 59 then L ++ [roR R] else L)).1 = l := hr
      have e48 : ∀ Q : PV, b_X3_addTextToFuture_48 (f_X3_addTextToFuture_20 fuel) (HT (uR (uP T 1 Q) R)) 0 (nI k) = f_X3_addTextToFuture_20 fuel (HT (uR (uP T 1 Q) R')) 0 (nI (k + 1)) := by
        intro Q
        unfold b_X3_addTextToFuture_48
        rw [t_R6, obs, t_R4, obs, t_aB, bd_nI (by omega) (by decide), obs, r_v2, show (uR (uP T 1 Q) R).2.1.1 k = T.2.1.1 k from rfl, c_take _ hp, obs, ht, nI_1]
        rfl
      have e : f_X3_addTextToFuture_20 (fuel + 1) (HT (uR (uP T 1 P) R)) 0 (nI k) = if T.2.1.1 k = 59 then (if n < 8 ∧ R.2.2.1.toBitVec.toNat < 2 ^ n then f_X3_addTextToFuture_20 fuel (HT (uR (uP T 1 (add2 P n (R.2.1 0) (R.2.1 1) (R.2.1 2) R.2.2.1)) R')) 0 (nI (k + 1)) else some (0, HT (uR (uP T 1 P) R))) else f_X3_addTextToFuture_20 fuel (HT (uR (uP T 1 P) R')) 0 (nI (k + 1)) := by
        show b_X3_addTextToFuture_20 _ _ _ _ = _
        unfold b_X3_addTextToFuture_20
        rw [t_I5, obs, show (uR (uP T 1 P) R).1.1 5 = nI l from h5, if_neg (nI_ge (by omega) (by omega)), t_R4, obs, t_aB, bd_nI (by omega) (by decide), obs, show (uR (uP T 1 P) R).2.1.1 k = T.2.1.1 k from rfl, e48 P]
        by_cases h59 : T.2.1.1 k = 59
        · rw [if_pos h59, if_pos h59, t_v3, c_addRead hn h0, obs]
          by_cases hc : n < 8 ∧ R.2.2.1.toBitVec.toNat < 2 ^ n
          · rw [if_pos hc, if_pos hc, if_neg n10, e48]
          · rw [if_neg hc, if_neg hc, if_pos rfl, i01]
        · rw [if_neg h59, if_neg h59]
      rw [e]
      show ∃ R'', _ = some (if (adL (if T.2.1.1 k = 59 then roR R :: rst T.2.1.1 m (k + 1) R' else rst T.2.1.1 m (k + 1) R') P n).1 = true then 1 else 0, HT (uR (uP T 1 (adL (if T.2.1.1 k = 59 then roR R :: rst T.2.1.1 m (k + 1) R' else rst T.2.1.1 m (k + 1) R') P n).2) R''))
      by_cases h59 : T.2.1.1 k = 59
      · rw [if_pos h59, if_pos h59]
        rw [if_pos h59] at hr
        by_cases hc : n < 8 ∧ R.2.2.1.toBitVec.toNat < 2 ^ n
        · have ea : adL (roR R :: rst T.2.1.1 m (k + 1) R') P n = adL (rst T.2.1.1 m (k + 1) R') (add2 P n (R.2.1 0) (R.2.1 1) (R.2.1 2) R.2.2.1) (n + 1) := if_pos hc
          rw [if_pos hc, ea]
          exact ih (k + 1) fuel R' _ (add2 P n (R.2.1 0) (R.2.1 1) (R.2.1 2) R.2.2.1) (n + 1) (tk_le hp ht) (by omega) hr rfl (by omega) (by omega)
        · have ea : adL (roR R :: rst T.2.1.1 m (k + 1) R') P n = (false, P) := if_neg hc
          rw [if_neg hc, ea]
          exact ⟨R, rfl⟩
      · rw [if_neg h59, if_neg h59]
        rw [if_neg h59] at hr
        exact ih (k + 1) fuel R' _ P n (tk_le hp ht) (by omega) hr h0 hn (by omega)
/-! the model's side -/
theorem z_earLoop {M : MV} {n c : Nat} (h0 : M.2 1 0 = nI n) (h13 : M.1.1 13 = nI c) (hc : c ≤ 15) : ∀ (L : List (Nat → Int32)) (k fuel : Nat), hdF (M.2 14) k L → k + L.length = c + 1 → L.length < fuel → f_X4_isEarlier_24 (hm G 133 M) fuel 133 0 (nI k) = some 0 ∧ (n + c < 8 → f_X4_isEarlier_24 (hm G 133 M) fuel 133 1 (nI k) = some (if eaB L (n + k) = true then 1 else 0)) := by
  intro L
  induction L with
  | nil =>
    intro k fuel hd hk hf
    obtain ⟨fuel, rfl⟩ : ∃ f, fuel = f + 1 := ⟨fuel - 1, by omega⟩
    rw [List.length_nil] at hk
    have e : ∀ x : Int32, f_X4_isEarlier_24 (hm G 133 M) (fuel + 1) 133 x (nI k) = some (x &&& 1) := by
      intro x
      show b_X4_isEarlier_24 _ _ _ _ _ = _
      unfold b_X4_isEarlier_24
      rw [m_I13 b133, obs, h13, if_pos (nI_lt (by omega) (by omega))]
    exact ⟨by rw [e, i01], fun _ => by rw [e, i11]; rfl⟩
  | cons e L ih =>
    intro k fuel ⟨h1, h2⟩ hk hf
    obtain ⟨fuel, rfl⟩ : ∃ f, fuel = f + 1 := ⟨fuel - 1, by omega⟩
    rw [List.length_cons] at hk hf
    obtain ⟨j0, j1⟩ := ih (k + 1) fuel h2 (by omega) (by omega)
    have hle : ¬ nI c < nI k := nI_nlt (by omega) (by omega)
    refine ⟨?_, fun hnc => ?_⟩
    · show b_X4_isEarlier_24 _ _ _ _ _ = _
      unfold b_X4_isEarlier_24 b_X4_isEarlier_65 b_X4_isEarlier_66
      rw [m_I13 b133, obs, h13, if_neg hle, if_pos rfl, nI_1, j0]
    · show b_X4_isEarlier_24 _ _ _ _ _ = _
      unfold b_X4_isEarlier_24 b_X4_isEarlier_65 b_X4_isEarlier_66 eaB
      rw [m_I13 b133, obs, h13, if_neg hle, if_neg n10, m_R14 b133, obs, m_a14 b133, ix4l, ixa3, bd_nI (by omega) (by decide), obs, m_R1 b133, obs, m_a1 b133, b228_0, obs, h0, nI_add, m_v b133, z_mask _ _ _ (by omega), obs, nI_1, h1 3 (by decide)]
      by_cases hm' : (e 3).toBitVec.toNat < 2 ^ (n + k)
      · rw [if_pos hm', if_neg n10, j1 hnc, decide_eq_true hm', Bool.true_and, Nat.add_assoc]
      · rw [if_neg hm', if_pos rfl, j0, decide_eq_false hm', Bool.false_and]
        rfl
theorem z_earlier {M : MV} {n c : Nat} (hn : n ≤ 8) (h0 : M.2 1 0 = nI n) (h13 : M.1.1 13 = nI c) (hc : c ≤ 15) {L : List (Nat → Int32)} (hd : hdF (M.2 14) 0 L) (hL : L.length = c + 1) (P : PV) : f_X4_isEarlier (hm G 133 M) 133 = some (if (adL L P n).1 = true then 1 else 0) := by
  obtain ⟨j0, j1⟩ := z_earLoop (G := G) h0 h13 hc L 0 FU hd (by omega) (by rw [FU_eq]; omega)
  rw [show nI 0 = (0 : Int32) from rfl] at j0 j1
  unfold f_X4_isEarlier b_X4_isEarlier_21
  rw [m_R1 b133, obs, m_a1 b133, b228_0, obs, m_I13 b133, obs, h0, h13, nI_add, ad_ea L P n hn, hL]
  by_cases h8 : n + c < 8
  · rw [if_neg (by rw [show (8 : Int32) = nI 8 from rfl]; exact nI_ge h8 (by decide)), j1 h8, decide_eq_true (by omega), Bool.true_and, Nat.add_zero]
  · rw [if_pos (by rw [show (8 : Int32) = nI 8 from rfl]; exact nI_le (by omega) (by omega)), j0, decide_eq_false (by omega), Bool.false_and]
    rfl
theorem z_bringLoop2 {c : Nat} (hc : c ≤ 15) : ∀ (L : List (Nat → Int32)) (k fuel n : Nat) (M : MV) (P : PV), hdF (M.2 14) k L → k + L.length = c + 1 → M.1.1 13 = nI c → n ≤ 8 → (∀ e, e ∈ L → okE e) → RZ n P (M.2 1) → AZ n P → (adL L P n).1 = true → L.length < fuel →
    ∃ z', f_X4_load_63 fuel (hm G 133 M) 133 (nI k) = some (nI (n + L.length), hm G 133 (mS (wZ M z') 4 0)) ∧ RZ (n + L.length) (adL L P n).2 z' ∧ AZ (n + L.length) (adL L P n).2 := by
  intro L
  induction L with
  | nil =>
    intro k fuel n M P hd hk h13 hn hok hz ha had hf
    obtain ⟨fuel, rfl⟩ : ∃ f, fuel = f + 1 := ⟨fuel - 1, by omega⟩
    rw [List.length_nil] at hk
    refine ⟨M.2 1, ?_, hz, ha⟩
    show b_X4_load_63 _ _ _ _ = _
    unfold b_X4_load_63
    rw [m_I13 b133, obs, h13, if_pos (nI_lt (by omega) (by omega)), m_P4 b133, obs, m_R1 b133, obs, m_a1 b133, b228_0, obs, show (mS M 4 0).2 1 0 = nI n from hz.2.2.1, wZ_self]
    rfl
  | cons e L ih =>
    intro k fuel n M P ⟨h1, h2⟩ hk h13 hn hok hz ha had hf
    obtain ⟨fuel, rfl⟩ : ∃ f, fuel = f + 1 := ⟨fuel - 1, by omega⟩
    rw [List.length_cons] at hk hf
    unfold adL at had ⊢
    by_cases hcnd : n < 8 ∧ (e 3).toBitVec.toNat < 2 ^ n
    · rw [if_pos hcnd] at had ⊢
      obtain ⟨o0, o1, o2⟩ := hok e (List.mem_cons_self)
      have hz' := RZ_add hz hcnd.1 o0 o1 o2 hcnd.2
      have ha' := AZ_add ha (e 0) (e 1) (e 2) (e 3)
      obtain ⟨z', i1, i2, i3⟩ := ih (k + 1) fuel (n + 1) (wZ M (brZ (M.2 1) n (e 0) (e 1) (e 2) (e 3))) (add2 P n (e 0) (e 1) (e 2) (e 3)) h2 (by omega) h13 (by omega) (fun e' he' => hok e' (List.mem_cons_of_mem _ he')) hz' ha' had (by omega)
      rw [wZ_wZ] at i1
      refine ⟨z', ?_, by rw [List.length_cons, show n + (L.length + 1) = n + 1 + L.length by omega]; exact i2, by rw [List.length_cons, show n + (L.length + 1) = n + 1 + L.length by omega]; exact i3⟩
      have e0 := h1 0 (by decide)
      rw [Nat.add_zero] at e0
      show b_X4_load_63 _ _ _ _ = _
      unfold b_X4_load_63
      rw [m_I13 b133, obs, h13, if_neg (nI_nlt (by omega) (by omega)), m_R14 b133, obs, m_a14 b133, ix4l, bd_nI (by omega) (by decide), obs, obs, m_a14 b133, ixa1, bd_nI (by omega) (by decide), obs, obs, m_a14 b133, ixa2, bd_nI (by omega) (by decide), obs, obs, m_a14 b133, ixa3, bd_nI (by omega) (by decide), obs, m_v b133, e0, h1 1 (by decide), h1 2 (by decide), h1 3 (by decide), z_bring hcnd.1 hz.2.2.1, obs, nI_1, i1, List.length_cons, show n + (L.length + 1) = n + 1 + L.length by omega]
    · rw [if_neg hcnd] at had
      exact absurd (show false = true from had) (by decide)
theorem z_load45 {M : MV} (c : Int32) : b_X4_load_45 (hm G 133 M) 133 133 c = if c ≤ 0 then (f_X4_save (hm G 133 (mS M 0 c)) 133).bind (fun h16 => f_X4_load_63 FU h16 133 (0 : Int32)) else some (0, hm G 133 (mS M 0 c)) := by
  unfold b_X4_load_45
  rw [m_P0 b133, obs, m_I0 b133, obs, m_v b133, mS_0]
theorem INV_clear {n s : Nat} (h : INV T n s) : INV (uM (uS T 5 0) (mS T.2.2.1 4 0)) n s := by
  obtain ⟨hs, hS, hM, hσ, hz, ha, hv, hbf⟩ := h
  exact ⟨hs, hS, hM, hσ, hz, ha, hv, 0, by omega, rfl, rfl, fun i hi => absurd hi (by omega)⟩
theorem MRd_0 {A B : MV} (h : MRd A B) (c : Int32) : MRd (mS A 0 c) (mS B 0 c) := by
  refine ⟨fun k a1 a2 a3 a4 => ?_, h.2.1, h.2.2⟩
  show (if k = 0 then c else B.1.1 k) = (if k = 0 then c else A.1.1 k)
  rw [h.1 k a1 a2 a3 a4]
theorem sv_pl1 {s : Nat} (hσ : σOK T.1.2.1) : (svT T s).1.2.2 1 = T.1.2.2 1 := by
  have h := (rotM_ok hσ s).1 (min s 5) (by omega)
  show (if 1 = rotM T.1.2.1 s (min s 5) then _ else _) = _
  rw [if_neg (by omega)]
  rfl
