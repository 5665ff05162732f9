/-! followers, on both sides -/
theorem fo_lt {nd : Nat → Int32} {n : Nat} (hn : n ≤ 8) : ∀ (m k : Nat) (x : Int32), k + m ≤ n → x.toBitVec.toNat < 2 ^ n → (foF nd m k x).toBitVec.toNat < 2 ^ n := by
  intro m
  induction m with
  | zero => intro k x _ hx; exact hx
  | succ m ih =>
    intro k x hk hx
    unfold foF
    refine ih (k + 1) _ (by omega) ?_
    split
    · exact hx
    · refine or_lt hx ?_
      have h1 : 2 ^ k < 2 ^ n := Nat.pow_lt_pow_right (by decide) (by omega)
      have h2 : 2 ^ n ≤ 2 ^ 8 := Nat.pow_le_pow_right (by decide) hn
      rw [nI_bit (by omega), pk_tn (by omega)]
      exact h1
theorem fo_keep {nd : Nat → Int32} : ∀ (m k : Nat) (x : Int32) (q : Nat), tb x q = true → tb (foF nd m k x) q = true := by
  intro m
  induction m with
  | zero => intro k x q h; exact h
  | succ m ih =>
    intro k x q h
    unfold foF
    refine ih _ _ q ?_
    split
    · exact h
    · rw [tb_or, h]
      rfl
/-- below r nothing needs r -/
theorem bit_and0 {nd : Int32} {k r : Nat} (h : nd.toBitVec.toNat < 2 ^ k) (hk : k ≤ r) (hr : r < 31) : ((1 : Int32) <<< (nI r &&& 31)) &&& nd = 0 := by
  rw [Int32.and_comm, tb_and _ hr]
  exact tb_hi h hk
theorem fo_skip {nd : Nat → Int32} {r : Nat} (hr : r < 31) : ∀ (j m k : Nat), k + j = r + 1 → (∀ i, i ≤ r → (nd i).toBitVec.toNat < 2 ^ i) → foF nd (j + m) k ((1 : Int32) <<< (nI r &&& 31)) = foF nd m (r + 1) ((1 : Int32) <<< (nI r &&& 31)) := by
  intro j
  induction j with
  | zero =>
    intro m k hk _
    rw [Nat.zero_add, show k = r + 1 by omega]
  | succ j ih =>
    intro m k hk hn
    rw [show j + 1 + m = (j + m) + 1 by omega]
    show foF nd (j + m) (k + 1) (if ((1 : Int32) <<< (nI r &&& 31)) &&& nd k = 0 then ((1 : Int32) <<< (nI r &&& 31)) else ((1 : Int32) <<< (nI r &&& 31)) ||| ((1 : Int32) <<< (nI k &&& 31))) = _
    rw [if_pos (bit_and0 (hn k (by omega)) (by omega) hr)]
    exact ih m (k + 1) (by omega) hn
theorem sub_bit8 : ∀ a, a < 256 → ∀ r, r < 8 → a.testBit r = true → nI a - nI (2 ^ r) = nI a &&& (nI (2 ^ r) ^^^ (-1 : Int32)) := by decide +kernel
theorem sub_bit {x : Int32} {r : Nat} (hx : x.toBitVec.toNat < 256) (hr : r < 8) (ht : tb x r = true) : x - ((1 : Int32) <<< (nI r &&& 31)) = x &&& (((1 : Int32) <<< (nI r &&& 31)) ^^^ (-1 : Int32)) := by
  rw [nI_bit (by omega), ← nI_nat x]
  exact sub_bit8 _ hx r hr ht
variable {G : GB} {b : Nat}
/-- who follows r, but r itself -/
theorem foll_eq {nd : Nat → Int32} {r n : Nat} (hr : r < n) (hn8 : n ≤ 8) (hnd : ∀ i, i < n → (nd i).toBitVec.toNat < 2 ^ i) : foF nd (n - (r + 1)) (r + 1) ((1 : Int32) <<< (nI r &&& 31)) - ((1 : Int32) <<< (nI r &&& 31)) = foF nd n 0 ((1 : Int32) <<< (nI r &&& 31)) &&& (((1 : Int32) <<< (nI r &&& 31)) ^^^ (-1 : Int32)) := by
  have e := fo_skip (nd := nd) (r := r) (by omega) (r + 1) (n - (r + 1)) 0 (by omega) (fun i hi => hnd i (by omega))
  rw [show r + 1 + (n - (r + 1)) = n by omega] at e
  rw [← e]
  have hlt : ((1 : Int32) <<< (nI r &&& 31)).toBitVec.toNat < 2 ^ n := by
    have h1 : 2 ^ r < 2 ^ n := Nat.pow_lt_pow_right (by decide) (by omega)
    have h2 : 2 ^ n ≤ 2 ^ 8 := Nat.pow_le_pow_right (by decide) hn8
    rw [nI_bit (by omega), pk_tn (by omega)]
    exact h1
  have h2 : 2 ^ n ≤ 256 := Nat.pow_le_pow_right (n := 2) (i := n) (j := 8) (by decide) hn8
  refine sub_bit (Nat.lt_of_lt_of_le (fo_lt hn8 n 0 _ (by omega) hlt) h2) (by omega) (fo_keep n 0 _ r ?_)
  rw [tb_bit (by omega)]
  exact decide_eq_true rfl

