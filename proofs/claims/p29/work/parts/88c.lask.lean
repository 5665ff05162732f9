/-! what the law reads, and its smaller methods -/
theorem l6_0 {α : Type} {k : Nat → α} : bd 6 (0 : Int32) k = some (k 0) := bd_nI (r := 0) (by decide) (by decide)
theorem l6_1 {α : Type} {k : Nat → α} : bd 6 (1 : Int32) k = some (k 1) := bd_nI (r := 1) (by decide) (by decide)
theorem l6_2 {α : Type} {k : Nat → α} : bd 6 (2 : Int32) k = some (k 2) := bd_nI (r := 2) (by decide) (by decide)
theorem l6_3 {α : Type} {k : Nat → α} : bd 6 (3 : Int32) k = some (k 3) := bd_nI (r := 3) (by decide) (by decide)
theorem l6_4 {α : Type} {k : Nat → α} : bd 6 (4 : Int32) k = some (k 4) := bd_nI (r := 4) (by decide) (by decide)
theorem l6_5 {α : Type} {k : Nat → α} : bd 6 (5 : Int32) k = some (k 5) := bd_nI (r := 5) (by decide) (by decide)
theorem l64_0 {α : Type} {k : Nat → α} : bd 64 (0 : Int32) k = some (k 0) := bd_nI (r := 0) (by decide) (by decide)
theorem l64_1 {α : Type} {k : Nat → α} : bd 64 (1 : Int32) k = some (k 1) := bd_nI (r := 1) (by decide) (by decide)
theorem l64_2 {α : Type} {k : Nat → α} : bd 64 (2 : Int32) k = some (k 2) := bd_nI (r := 2) (by decide) (by decide)
theorem l64_3 {α : Type} {k : Nat → α} : bd 64 (3 : Int32) k = some (k 3) := bd_nI (r := 3) (by decide) (by decide)
theorem jm2 (r : Nat) : nI (4 * r + 2) - (2 : Int32) = nI (4 * r) := jm (a := 4 * r + 2) (c := 2) (by omega)
theorem jm3 (r : Nat) : nI (4 * r + 3) - (2 : Int32) = nI (4 * r + 1) := jm (a := 4 * r + 3) (c := 2) (by omega)
variable {G : GB} {c : Nat} {X : LX}
theorem l_flag (hc : CK G c) {r : Nat} (hr : r < 6) : f_L_flag (hl G c X) (nI r) 133 c = some (if flgR (rowX X r) = true then 1 else 0) := by
  simp (disch := omega) only [f_L_flag, b_L_flag_57, b_L_flag_52, b_L_flag_56, obs, l_a0 hc, l_a1 hc, l_a2 hc, l_a3 hc, l_a4 hc, l_s0 hc, l_s1 hc, l_s2 hc, l_s3 hc, l_s4 hc, jx9, jx7, jx3, ix4l, ixa0, ixa1, ixa2, ixa3, ixa4, ixa5, ixa6, ixa7, ixa8, ixa9, ixa10, ixa11, ixa12, ixa13, ixa14, ixa15, ixa16, ixa17, ixa18, ixa19, ixa20, l6_0, l6_1, l6_2, l6_3, l6_4, l6_5, l64_0, l64_1, l64_2, l64_3, bd_nI, flgR, flg, i11, i01, rowX, Int32.mul_comm (100 : Int32)]
  by_cases h1 : X 1 (9 * r + 4) = 0
  · simp only [h1, nl0_2, if_true, if_false, Bool.not_eq_true', decide_eq_false_iff_not, ite_not, ite_some]
  · by_cases h2 : X 1 (9 * r + 4) = 2
    · simp only [h2, nl2_0, if_true, if_false, decide_true]
    · simp only [h1, h2, if_false, decide_false, Bool.false_eq_true]
theorem l_maskLoop (hc : CK G c) {n p : Nat} (hn : X 4 0 = nI n) (hn6 : n ≤ 6) (hp : p < 9) (v : Int32) : ∀ (m k fuel : Nat), k + m = n → m < fuel → f_L_mask_6 (hl G c X) fuel (nI p) v c (c + 3) (nI (mkN (fun q => decide (X 1 (9 * q + p) = v)) k)) (nI k) = some (nI (mkN (fun q => decide (X 1 (9 * q + p) = v)) n)) := by
  intro m
  induction m with
  | zero =>
    intro k fuel hk hf
    obtain ⟨fuel, rfl⟩ : ∃ f, fuel = f + 1 := ⟨fuel - 1, by omega⟩
    obtain rfl : k = n := by omega
    show b_L_mask_6 _ _ _ _ _ _ _ _ = _
    unfold b_L_mask_6
    rw [l_a4 hc, l6_0, obs, hn, if_pos (nI_le (by omega) (by omega))]
  | succ m ih =>
    intro k fuel hk hf
    obtain ⟨fuel, rfl⟩ : ∃ f, fuel = f + 1 := ⟨fuel - 1, by omega⟩
    have ih := ih (k + 1) fuel (by omega) (by omega)
    show b_L_mask_6 _ _ _ _ _ _ _ _ = _
    unfold b_L_mask_6 b_L_mask_37
    rw [l_a4 hc, l6_0, obs, hn, if_neg (nI_ge (by omega) (by omega)), jx9, nI_add, l_a1 hc, bd_nI (by omega) (by decide), obs]
    rw [show mkN (fun q => decide (X 1 (9 * q + p) = v)) (k + 1) = mkN (fun q => decide (X 1 (9 * q + p) = v)) k ||| (if decide (X 1 (9 * k + p) = v) = true then 2 ^ k else 0) from rfl] at ih
    by_cases h : X 1 (9 * k + p) = v
    · rw [if_pos h, obs, nI_bit (by omega), nI_or, nI_1]
      rw [if_pos (decide_eq_true h)] at ih
      exact ih
    · rw [if_neg h, obs, show (0 : Int32) = nI 0 from rfl, nI_or, nI_1]
      rw [if_neg (by simp [h])] at ih
      exact ih
theorem l_mask (hc : CK G c) {n p : Nat} (hn : X 4 0 = nI n) (hn6 : n ≤ 6) (hp : p < 9) (v : Int32) : f_L_mask (hl G c X) (nI p) v c (c + 3) = some (nI (mkN (fun q => decide (X 1 (9 * q + p) = v)) n)) := by
  unfold f_L_mask
  exact l_maskLoop hc hn hn6 hp v n 0 FU (by omega) (by rw [FU_eq]; omega)
def itF (F : Int32 → Int32) : Nat → Int32 → Int32
  | 0, x => x
  | m + 1, x => itF F m (F x)
theorem it_fix {F : Int32 → Int32} {x : Int32} (h : F x = x) : ∀ m, itF F m x = x := by
  intro m
  induction m with
  | zero => rfl
  | succ m ih => show itF F m (F x) = x; rw [h]; exact ih
/-- the law's way up, once -/
theorem l_upLoop (hc : CK G c) {n : Nat} (hn : X 4 0 = nI n) (hn6 : n ≤ 6) (rec6 : Int32 → Nat → Nat → Int32 → Int32 → Option Int32) (j : Int32) : ∀ (m k fuel : Nat) (x : Int32), k + m = n → m < fuel → f_L_closed_17 (hl G c X) rec6 fuel 1 c (c + 3) x j (nI k) = rec6 1 c (c + 3) (foF (fun q => X 1 (9 * q)) m k x) (j + 1) := by
  intro m
  induction m with
  | zero =>
    intro k fuel x hk hf
    obtain ⟨fuel, rfl⟩ : ∃ f, fuel = f + 1 := ⟨fuel - 1, by omega⟩
    show b_L_closed_17 _ _ _ _ _ _ _ _ _ = _
    unfold b_L_closed_17
    rw [l_a4 hc, l6_0, obs, hn, if_pos (nI_le (by omega) (by omega))]
    rfl
  | succ m ih =>
    intro k fuel x hk hf
    obtain ⟨fuel, rfl⟩ : ∃ f, fuel = f + 1 := ⟨fuel - 1, by omega⟩
    show b_L_closed_17 _ _ _ _ _ _ _ _ _ = _
    unfold b_L_closed_17 b_L_closed_51 b_L_closed_78 foF
    rw [l_a4 hc, l6_0, obs, hn, if_neg (nI_ge (by omega) (by omega)), if_neg n10, jx9, l_a1 hc, bd_nI (by omega) (by decide), obs, if_neg n10, nI_1, Int32.and_comm (X 1 (9 * k)) x]
    by_cases ht : x &&& X 1 (9 * k) = 0
    · rw [if_pos ht, if_pos ht]
      exact ih (k + 1) fuel x (by omega) (by omega)
    · rw [if_neg ht, if_neg ht, obs, if_neg n10]
      exact ih (k + 1) fuel _ (by omega) (by omega)
theorem l_upAll (hc : CK G c) {n : Nat} (hn : X 4 0 = nI n) (hn6 : n ≤ 6) : ∀ (m k fuel : Nat) (x : Int32), k + m = n → m < fuel → f_L_closed_6 (hl G c X) fuel 1 c (c + 3) x (nI k) = some (itF (foF (fun q => X 1 (9 * q)) n 0) m x) := by
  intro m
  induction m with
  | zero =>
    intro k fuel x hk hf
    obtain ⟨fuel, rfl⟩ : ∃ f, fuel = f + 1 := ⟨fuel - 1, by omega⟩
    show b_L_closed_6 _ _ _ _ _ _ _ = _
    unfold b_L_closed_6
    rw [l_a4 hc, l6_0, obs, hn, if_pos (nI_le (by omega) (by omega))]
    rfl
  | succ m ih =>
    intro k fuel x hk hf
    obtain ⟨fuel, rfl⟩ : ∃ f, fuel = f + 1 := ⟨fuel - 1, by omega⟩
    show b_L_closed_6 _ _ _ _ _ _ _ = _
    unfold b_L_closed_6
    rw [l_a4 hc, l6_0, obs, hn, if_neg (nI_ge (by omega) (by omega))]
    have e := l_upLoop hc hn hn6 (f_L_closed_6 (hl G c X) fuel) (nI k) n 0 FU x (by omega) (by rw [FU_eq]; omega)
    rw [nI_1] at e
    exact e.trans (ih (k + 1) fuel _ (by omega) (by omega))
/-- the way up is closed -/
theorem fo_closed {nd : Nat → Int32} {n : Nat} (hn : n ≤ 8) (hnd : ∀ i, i < n → (nd i).toBitVec.toNat < 2 ^ i) : ∀ (m k : Nat) (x : Int32), k + m = n → ∀ r, k ≤ r → r < n → ¬ foF nd m k x &&& nd r = 0 → tb (foF nd m k x) r = true := by
  have low : ∀ (a d : Int32) (r : Nat), d.toBitVec.toNat < 2 ^ r → ∀ b : Int32, (∀ q, q < r → tb a q = tb b q) → a &&& d = b &&& d := by
    intro a d r hd b h
    apply Int32.toBitVec_inj.1
    apply BitVec.eq_of_getLsbD_eq
    intro i hi
    show (a.toBitVec &&& d.toBitVec).getLsbD i = (b.toBitVec &&& d.toBitVec).getLsbD i
    rw [BitVec.getLsbD_and, BitVec.getLsbD_and]
    by_cases hir : i < r
    · have e : a.toBitVec.getLsbD i = b.toBitVec.getLsbD i := h i hir
      rw [e]
    · have e : d.toBitVec.getLsbD i = false := tb_hi hd (by omega)
      rw [e, Bool.and_false, Bool.and_false]
  intro m
  induction m with
  | zero => intro k x hk r h1 h2; omega
  | succ m ih =>
    intro k x hk r h1 h2 hne
    by_cases h : r = k
    · subst h
      unfold foF at hne ⊢
      have e := low (foF nd m (r + 1) (if x &&& nd r = 0 then x else x ||| ((1 : Int32) <<< (nI r &&& 31)))) (nd r) r (hnd r h2) x (fun q hq => (fo_lo (nd := nd) m (r + 1) (if x &&& nd r = 0 then x else x ||| ((1 : Int32) <<< (nI r &&& 31))) q (by omega) (by omega)).trans (by
        split
        · rfl
        · rw [tb_or, tb_bit (by omega), decide_eq_false (by omega), Bool.or_false]))
      rw [e] at hne
      rw [if_neg hne]
      refine fo_keep m (r + 1) _ r ?_
      rw [tb_or, tb_bit (by omega), decide_eq_true rfl, Bool.or_true]
    · exact ih (k + 1) _ (by omega) r (by omega) h2 hne
theorem bit_or {x : Int32} {k : Nat} (hk : k < 31) (h : tb x k = true) : x ||| ((1 : Int32) <<< (nI k &&& 31)) = x := by
  apply Int32.toBitVec_inj.1
  apply BitVec.eq_of_getLsbD_eq
  intro i hi
  show tb (x ||| ((1 : Int32) <<< (nI k &&& 31))) i = tb x i
  rw [tb_or, tb_bit hk]
  by_cases hik : k = i
  · subst hik
    rw [h]
    rfl
  · rw [decide_eq_false hik, Bool.or_false]
theorem fo_fix {nd : Nat → Int32} {n : Nat} (hn : n ≤ 8) {y : Int32} (h : ∀ r, r < n → ¬ y &&& nd r = 0 → tb y r = true) : ∀ (m k : Nat), k + m = n → foF nd m k y = y := by
  intro m
  induction m with
  | zero => intro k _; rfl
  | succ m ih =>
    intro k hk
    unfold foF
    by_cases hy : y &&& nd k = 0
    · rw [if_pos hy]
      exact ih (k + 1) (by omega)
    · rw [if_neg hy, bit_or (by omega) (h k (by omega) hy)]
      exact ih (k + 1) (by omega)
theorem l_up (hc : CK G c) {n : Nat} (hn : X 4 0 = nI n) (hn6 : n ≤ 6) (hnd : ∀ i, i < n → (X 1 (9 * i)).toBitVec.toNat < 2 ^ i) (x : Int32) : f_L_closed (hl G c X) x 1 c (c + 3) = some (foF (fun q => X 1 (9 * q)) n 0 x) := by
  unfold f_L_closed
  refine (l_upAll hc hn hn6 n 0 FU x (by omega) (by rw [FU_eq]; omega)).trans (congrArg some ?_)
  cases n with
  | zero => rfl
  | succ m =>
    show itF _ m (foF _ (m + 1) 0 x) = _
    exact it_fix (fo_fix (by omega) (fun r hr h => fo_closed (n := m + 1) (by omega) hnd (m + 1) 0 x (by omega) r (by omega) hr h) (m + 1) 0 (by omega)) m
/-- the law's way down, once -/
def dnF (nd : Nat → Int32) : Nat → Nat → Int32 → Int32
  | 0, _, x => x
  | m + 1, k, x => dnF nd m (k + 1) (if tb x k = true then x ||| nd k else x)
theorem l_dnLoop (hc : CK G c) {n : Nat} (hn : X 4 0 = nI n) (hn6 : n ≤ 6) (rec6 : Int32 → Nat → Nat → Int32 → Int32 → Option Int32) (j : Int32) : ∀ (m k fuel : Nat) (x : Int32), k + m = n → m < fuel → f_L_closed_17 (hl G c X) rec6 fuel 0 c (c + 3) x j (nI k) = rec6 0 c (c + 3) (dnF (fun q => X 1 (9 * q)) m k x) (j + 1) := by
  intro m
  induction m with
  | zero =>
    intro k fuel x hk hf
    obtain ⟨fuel, rfl⟩ : ∃ f, fuel = f + 1 := ⟨fuel - 1, by omega⟩
    show b_L_closed_17 _ _ _ _ _ _ _ _ _ = _
    unfold b_L_closed_17
    rw [l_a4 hc, l6_0, obs, hn, if_pos (nI_le (by omega) (by omega))]
    rfl
  | succ m ih =>
    intro k fuel x hk hf
    obtain ⟨fuel, rfl⟩ : ∃ f, fuel = f + 1 := ⟨fuel - 1, by omega⟩
    show b_L_closed_17 _ _ _ _ _ _ _ _ _ = _
    unfold b_L_closed_17 b_L_closed_51 b_L_closed_78 dnF
    rw [l_a4 hc, l6_0, obs, hn, if_neg (nI_ge (by omega) (by omega)), if_pos rfl, if_pos rfl, nI_1]
    by_cases ht : tb x k = true
    · rw [if_pos ((tb_has x (by omega)).2 ht), if_pos ht, jx9, l_a1 hc, bd_nI (by omega) (by decide), obs, obs]
      exact ih (k + 1) fuel _ (by omega) (by omega)
    · rw [if_neg (fun h => ht ((tb_has x (by omega)).1 h)), if_neg ht]
      exact ih (k + 1) fuel x (by omega) (by omega)
theorem l_dnAll (hc : CK G c) {n : Nat} (hn : X 4 0 = nI n) (hn6 : n ≤ 6) : ∀ (m k fuel : Nat) (x : Int32), k + m = n → m < fuel → f_L_closed_6 (hl G c X) fuel 0 c (c + 3) x (nI k) = some (itF (dnF (fun q => X 1 (9 * q)) n 0) m x) := by
  intro m
  induction m with
  | zero =>
    intro k fuel x hk hf
    obtain ⟨fuel, rfl⟩ : ∃ f, fuel = f + 1 := ⟨fuel - 1, by omega⟩
    show b_L_closed_6 _ _ _ _ _ _ _ = _
    unfold b_L_closed_6
    rw [l_a4 hc, l6_0, obs, hn, if_pos (nI_le (by omega) (by omega))]
    rfl
  | succ m ih =>
    intro k fuel x hk hf
    obtain ⟨fuel, rfl⟩ : ∃ f, fuel = f + 1 := ⟨fuel - 1, by omega⟩
    show b_L_closed_6 _ _ _ _ _ _ _ = _
    unfold b_L_closed_6
    rw [l_a4 hc, l6_0, obs, hn, if_neg (nI_ge (by omega) (by omega))]
    have e := l_dnLoop hc hn hn6 (f_L_closed_6 (hl G c X) fuel) (nI k) n 0 FU x (by omega) (by rw [FU_eq]; omega)
    rw [nI_1] at e
    exact e.trans (ih (k + 1) fuel _ (by omega) (by omega))
theorem tb_ext {x y : Int32} (h : ∀ q, tb x q = tb y q) : x = y := by
  apply Int32.toBitVec_inj.1
  apply BitVec.eq_of_getLsbD_eq
  intro i hi
  exact h i
theorem wn_keep {nd : Nat → Int32} : ∀ (k : Nat) (x : Int32) (q : Nat), tb x q = true → tb (wnF nd k x) q = true := by
  intro k
  induction k with
  | zero => intro x q h; exact h
  | succ k ih =>
    intro x q h
    unfold wnF
    refine ih _ q ?_
    split
    · rw [tb_or, h]; rfl
    · exact h
theorem wn_closed {nd : Nat → Int32} : ∀ (k : Nat) (x : Int32), (∀ j, j < k → (nd j).toBitVec.toNat < 2 ^ j) → ∀ r, r < k → tb (wnF nd k x) r = true → ∀ q, tb (nd r) q = true → tb (wnF nd k x) q = true := by
  intro k
  induction k with
  | zero => intro x _ r hr; omega
  | succ k ih =>
    intro x hnd r hr h q hq
    unfold wnF at h ⊢
    by_cases hrk : r = k
    · subst hrk
      rw [wn_hi r _ r (fun j hj => hnd j (by omega)) (Nat.le_refl _)] at h
      have hx : tb x r = true := by
        by_cases ht : tb x r = true
        · exact ht
        · rw [if_neg ht] at h
          exact h
      rw [if_pos hx]
      refine wn_keep r _ q ?_
      rw [tb_or, hq, Bool.or_true]
    · exact ih _ (fun j hj => hnd j (by omega)) r (by omega) h q hq
theorem dn_in {nd : Nat → Int32} {n : Nat} {C : Int32} (hC : ∀ r, r < n → tb C r = true → ∀ q, tb (nd r) q = true → tb C q = true) : ∀ (m k : Nat) (x : Int32), k + m ≤ n → (∀ q, tb x q = true → tb C q = true) → ∀ q, tb (dnF nd m k x) q = true → tb C q = true := by
  intro m
  induction m with
  | zero => intro k x _ h; exact h
  | succ m ih =>
    intro k x hk h
    unfold dnF
    refine ih (k + 1) _ (by omega) (fun q hq => ?_)
    by_cases ht : tb x k = true
    · rw [if_pos ht, tb_or, Bool.or_eq_true] at hq
      rcases hq with hq | hq
      · exact h q hq
      · exact hC k (by omega) (h k ht) q hq
    · rw [if_neg ht] at hq
      exact h q hq
theorem dn_keep {nd : Nat → Int32} : ∀ (m k : Nat) (x : Int32) (q : Nat), tb x q = true → tb (dnF nd m k x) q = true := by
  intro m
  induction m with
  | zero => intro k x q h; exact h
  | succ m ih =>
    intro k x q h
    unfold dnF
    refine ih (k + 1) _ q ?_
    split
    · rw [tb_or, h]; rfl
    · exact h
theorem dn_adds {nd : Nat → Int32} {r : Nat} : ∀ (m k : Nat) (x : Int32), k ≤ r → r < k + m → tb x r = true → ∀ q, tb (nd r) q = true → tb (dnF nd m k x) q = true := by
  intro m
  induction m with
  | zero => intro k x h1 h2; omega
  | succ m ih =>
    intro k x h1 h2 hx q hq
    unfold dnF
    by_cases h : r = k
    · subst h
      rw [if_pos hx]
      refine dn_keep m (r + 1) _ q ?_
      rw [tb_or, hq, Bool.or_true]
    · refine ih (k + 1) _ (by omega) (by omega) ?_ q hq
      split
      · rw [tb_or, hx]; rfl
      · exact hx
theorem dn_wn {nd : Nat → Int32} {n : Nat} : ∀ (k : Nat) (x y : Int32), k ≤ n → (∀ q, tb x q = true → tb y q = true) → ∀ q, tb (wnF nd k x) q = true → tb (itF (dnF nd n 0) k y) q = true := by
  intro k
  induction k with
  | zero => intro x y _ h; exact h
  | succ k ih =>
    intro x y hk h
    unfold wnF itF
    refine ih _ _ (by omega) (fun q hq => ?_)
    by_cases ht : tb x k = true
    · rw [if_pos ht, tb_or, Bool.or_eq_true] at hq
      rcases hq with hq | hq
      · exact dn_keep n 0 y q (h q hq)
      · exact dn_adds n 0 y (by omega) (by omega) (h k ht) q hq
    · rw [if_neg ht] at hq
      exact dn_keep n 0 y q (h q hq)
theorem dn_its {nd : Nat → Int32} {n : Nat} {C : Int32} (hC : ∀ r, r < n → tb C r = true → ∀ q, tb (nd r) q = true → tb C q = true) : ∀ (m : Nat) (x : Int32), (∀ q, tb x q = true → tb C q = true) → ∀ q, tb (itF (dnF nd n 0) m x) q = true → tb C q = true := by
  intro m
  induction m with
  | zero => intro x h; exact h
  | succ m ih => intro x h; exact ih _ (dn_in hC n 0 x (by omega) h)
theorem l_dn (hc : CK G c) {n : Nat} (hn : X 4 0 = nI n) (hn6 : n ≤ 6) (hnd : ∀ i, i < n → (X 1 (9 * i)).toBitVec.toNat < 2 ^ i) (x : Int32) : f_L_closed (hl G c X) x 0 c (c + 3) = some (wnF (fun q => X 1 (9 * q)) n x) := by
  unfold f_L_closed
  refine (l_dnAll hc hn hn6 n 0 FU x (by omega) (by rw [FU_eq]; omega)).trans (congrArg some (tb_ext fun q => ?_))
  rw [Bool.eq_iff_iff]
  exact ⟨dn_its (wn_closed n x hnd) n x (fun q h => wn_keep n x q h) q, dn_wn (n := n) n x x (Nat.le_refl _) (fun _ h => h) q⟩
