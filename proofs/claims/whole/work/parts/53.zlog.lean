/-! the model's log; a rail becomes; what a step does -/
def shZ (z : Nat → Int32) (m : Nat) : Nat → Int32 := fun i => if 4 ≤ i ∧ i < m then z (i + 4) else z i
def puZ (z : Nat → Int32) (n r : Nat) (s : Int32) : Nat → Int32 :=
  upd (upd (upd (upd (upd z (4 + 4 * n) (z 2)) (4 + 4 * n + 1) (nI r)) (4 + 4 * n + 2) s) (4 + 4 * n + 3) (rowZ z r 15)) 3 (nI (n + 1))
def lgZ (z : Nat → Int32) (n r : Nat) (s : Int32) : Nat → Int32 := if n = 16 then puZ (upd (shZ z 64) 3 (nI 15)) 15 r s else puZ z n r s
def LZ (n : Nat) (f z : Nat → Int32) : Prop := z 3 = nI n ∧ ∀ j i, j < n → i < 4 → f (4 * j + i) = z (4 + 4 * (n - 1 - j) + i)
def LRel (l : LG) (z : Nat → Int32) : Prop := ∃ n, n ≤ 16 ∧ l.1 = nI n ∧ LZ n l.2 z
theorem LZ_push {n r : Nat} {f z : Nat → Int32} (hn : n ≤ 15) (h : LZ n f z) (s : Int32) : LZ (n + 1) (logIn f (z 2) (nI r) s (rowZ z r 15)) (puZ z n r s) := by
  refine ⟨upd_s, fun j i hj hi => ?_⟩
  unfold puZ
  rw [upd_n (by omega)]
  by_cases h0 : j = 0
  · subst h0
    unfold logIn
    rcases (show i = 0 ∨ i = 1 ∨ i = 2 ∨ i = 3 by omega) with h1 | h1 | h1 | h1 <;> subst h1
    · rw [upd_n (by omega), upd_n (by omega), upd_n (by omega), if_pos (by omega)]
      exact (if_pos (by omega)).symm
    · rw [upd_n (by omega), upd_n (by omega), if_neg (by omega), if_pos (by omega)]
      exact (if_pos (by omega)).symm
    · rw [upd_n (by omega), if_neg (by omega), if_neg (by omega), if_pos (by omega)]
      exact (if_pos (by omega)).symm
    · rw [if_neg (by omega), if_neg (by omega), if_neg (by omega), if_pos (by omega)]
      exact (if_pos (by omega)).symm
  · have e : logIn f (z 2) (nI r) s (rowZ z r 15) (4 * j + i) = f (4 * (j - 1) + i) := by
      unfold logIn
      rw [if_neg (by omega), if_neg (by omega), if_neg (by omega), if_neg (by omega), if_pos (by omega)]
      congr 1
      omega
    rw [e, h.2 (j - 1) i (by omega) hi, upd_n (by omega), upd_n (by omega), upd_n (by omega), upd_n (by omega)]
    congr 1
    omega
theorem LZ_shift {f z : Nat → Int32} (h : LZ 16 f z) : LZ 15 f (upd (shZ z 64) 3 (nI 15)) := by
  refine ⟨upd_s, fun j i hj hi => ?_⟩
  rw [upd_n (by omega), h.2 j i (by omega) hi]
  unfold shZ
  rw [if_pos (by omega)]
  congr 1
  omega
theorem sh_2 (z : Nat → Int32) : (upd (shZ z 64) 3 (nI 15)) 2 = z 2 := by
  rw [upd_n (by omega)]
  rfl
theorem sh_hi (z : Nat → Int32) {i : Nat} (h : 68 ≤ i) : (upd (shZ z 64) 3 (nI 15)) i = z i := by
  rw [upd_n (by omega)]
  exact if_neg (by omega)
theorem row_hi {z z' : Nat → Int32} (h : ∀ i, 68 ≤ i → z' i = z i) : rowZ z' = rowZ z := by
  funext q j
  by_cases hj : j = 8 ∨ 20 ≤ j
  · rw [rz_out hj, rz_out hj]
  · rw [rz_in hj, rz_in hj, h _ (by omega)]
theorem pu_hi (z : Nat → Int32) {n r i : Nat} (s : Int32) (hn : n ≤ 15) (h : 68 ≤ i ∨ i < 3) : puZ z n r s i = z i := by
  unfold puZ
  rw [upd_n (by omega), upd_n (by omega), upd_n (by omega), upd_n (by omega), upd_n (by omega)]
theorem lg_hi (z : Nat → Int32) {n r i : Nat} (s : Int32) (hn : n ≤ 16) (h : 68 ≤ i ∨ i < 3) : lgZ z n r s i = z i := by
  unfold lgZ
  by_cases h16 : n = 16
  · rw [if_pos h16, pu_hi _ _ (by omega) h, upd_n (by omega)]
    exact if_neg (by omega)
  · rw [if_neg h16, pu_hi _ _ (by omega) h]
theorem LRel_push {n r : Nat} {z : Nat → Int32} {l : LG} (hz : z 3 = nI n) (hn : n ≤ 16) (h : LRel l z) (s : Int32) : LRel (pushL (z 2) l (nI r, s, rowZ z r 15)) (lgZ z n r s) := by
  obtain ⟨m, hm, h1, h2⟩ := h
  obtain rfl : m = n := by
    have := h2.1
    rw [hz, nI_eq (by omega) (by omega)] at this
    exact this.symm
  refine ⟨if m = 16 then 16 else m + 1, by split <;> omega, ?_, ?_⟩
  · show mmin (l.1 + 1) 16 = _
    rw [h1, nI_1]
    unfold mmin
    by_cases h16 : m = 16
    · subst h16
      decide
    · rw [if_neg h16, if_neg]
      rw [show (16 : Int32) = nI 16 from rfl, nI_ltI (by omega) (by omega)]
      omega
  · unfold lgZ pushL
    by_cases h16 : m = 16
    · subst h16
      rw [if_pos rfl, if_pos rfl]
      have := LZ_push (r := r) (by omega) (LZ_shift h2) s
      rw [sh_2, row_hi (fun i hi => sh_hi z hi)] at this
      exact this
    · rw [if_neg h16, if_neg h16]
      exact LZ_push (by omega) h2 s
variable {G : Nat → MC} {b : Nat}
theorem z_entry (hb : b ≤ 134) {M : MV} {r n : Nat} (hr : r < 8) (hz : M.2 1 3 = nI n) (hn : n ≤ 15) (s : Int32) : b_X4_become_120 (hm G b M) b (nI r) s = some (hm G b (wZ M (puZ (M.2 1) n r s))) := by
  simp (disch := omega) only [b_X4_become_120, Option.bind_some, b228_0, b228_1, b228_2, b228_3, m_v hb, m_R1 hb, m_R8 hb, m_a1 hb, m_a8 hb, m_of0 hb hr, m_of1 hb hr, m_of2 hb hr, m_of3 hb hr, m_of4 hb hr, m_of5 hb hr, m_of6 hb hr, m_of7 hb hr, m_of8 hb hr, m_of9 hb hr, m_of10 hb hr, m_of11 hb hr, m_of12 hb hr, m_of13 hb hr, m_of14 hb hr, m_of15 hb hr, m_of16 hb hr, m_of17 hb hr, m_of18 hb hr, m_of19 hb hr, m_lay0 hb hr, m_lay1 hb hr, m_lay2 hb hr, m_lay3 hb hr, m_lay4 hb hr, m_lay5 hb hr, m_lay6 hb hr, m_lay7 hb hr, m_lay8 hb hr, m_lay9 hb hr, m_lay10 hb hr, m_lay11 hb hr, m_lay12 hb hr, m_lay13 hb hr, m_lay14 hb hr, m_lay15 hb hr, m_lay16 hb hr, m_lay17 hb hr, m_lay18 hb hr, m_lay19 hb hr, m_add13 hb hr, m_add14 hb hr, m_add16 hb hr, m_add17 hb hr, m_add18 hb hr, m_add19 hb hr, wZ_1, wZ_z, wZ_8, wZ_wZ, m_s1 hb, mA_wZ, hz, bd_nI, b228_2, b228_3, ix7, ix4, ix20, ix4l, ix68, ix4p, ixa0, ixa1, ixa2, ixa3, ixa4, ixa5, ixa6, ixa7, ixa8, ixa9, ixa10, ixa11, ixa12, ixa13, ixa14, ixa15, ixa16, ixa17, ixa18, ixa19, ixa20, nI_add]
  rw [rz_updl _ (by omega), rz_updl _ (by omega), rz_updl _ (by omega), upd_n (by omega), upd_n (by omega), upd_n (by omega), upd_n (by omega), hz, nI_1]
  rfl
theorem sh_step (z : Nat → Int32) {k : Nat} (h4 : 4 ≤ k) : upd (shZ z k) k (shZ z k (4 + k)) = shZ z (k + 1) := by
  funext i
  unfold upd shZ
  by_cases h : i = k
  · subst h
    rw [if_pos rfl, if_neg (by omega), if_pos (by omega), Nat.add_comm]
  · rw [if_neg h]
    by_cases h2 : 4 ≤ i ∧ i < k
    · rw [if_pos h2, if_pos (by omega)]
    · rw [if_neg h2, if_neg (by omega)]
theorem z_shift (hb : b ≤ 134) {M : MV} {r : Nat} (hr : r < 8) (z : Nat → Int32) (hz : z 3 = nI 16) (s : Int32) : ∀ (m k fuel : Nat), k + m = 64 → 4 ≤ k → m < fuel → f_X4_become_80 fuel (hm G b (wZ M (shZ z k))) b (nI r) s (nI k) = some (hm G b (wZ M (puZ (upd (shZ z 64) 3 (nI 15)) 15 r s))) := by
  intro m
  induction m with
  | zero =>
    intro k fuel hk h4 hf
    obtain ⟨fuel, rfl⟩ : ∃ f, fuel = f + 1 := ⟨fuel - 1, by omega⟩
    show b_X4_become_80 _ _ _ _ _ _ = _
    unfold b_X4_become_80
    obtain rfl : k = 64 := by omega
    rw [if_pos (by decide)]
    have e3 : shZ z 64 3 = nI 16 := hz
    simp only [Option.bind_some, b228_0, b228_1, b228_2, b228_3, m_v hb, m_R1 hb, m_R8 hb, m_a1 hb, m_a8 hb, m_of0 hb hr, m_of1 hb hr, m_of2 hb hr, m_of3 hb hr, m_of4 hb hr, m_of5 hb hr, m_of6 hb hr, m_of7 hb hr, m_of8 hb hr, m_of9 hb hr, m_of10 hb hr, m_of11 hb hr, m_of12 hb hr, m_of13 hb hr, m_of14 hb hr, m_of15 hb hr, m_of16 hb hr, m_of17 hb hr, m_of18 hb hr, m_of19 hb hr, m_lay0 hb hr, m_lay1 hb hr, m_lay2 hb hr, m_lay3 hb hr, m_lay4 hb hr, m_lay5 hb hr, m_lay6 hb hr, m_lay7 hb hr, m_lay8 hb hr, m_lay9 hb hr, m_lay10 hb hr, m_lay11 hb hr, m_lay12 hb hr, m_lay13 hb hr, m_lay14 hb hr, m_lay15 hb hr, m_lay16 hb hr, m_lay17 hb hr, m_lay18 hb hr, m_lay19 hb hr, m_add13 hb hr, m_add14 hb hr, m_add16 hb hr, m_add17 hb hr, m_add18 hb hr, m_add19 hb hr, wZ_1, wZ_z, wZ_8, wZ_wZ, m_s1 hb, mA_wZ, e3, show nI 16 - 1 = nI 15 from by decide]
    rw [z_entry hb hr (n := 15) (by rw [wZ_z]; exact upd_s) (by omega)]
    simp only [wZ_z, wZ_wZ]
  | succ m ih =>
    intro k fuel hk h4 hf
    obtain ⟨fuel, rfl⟩ : ∃ f, fuel = f + 1 := ⟨fuel - 1, by omega⟩
    show b_X4_become_80 _ _ _ _ _ _ = _
    unfold b_X4_become_80
    rw [if_neg (by rw [show (64 : Int32) = nI 64 from rfl]; exact nI_ge (by omega) (by omega))]
    have ei : nI (4 + k) - 4 = nI k := by
      rw [show (4 : Int32) = nI 4 from rfl, pk_sub (by omega)]
      congr 1
      omega
    simp (disch := omega) only [Option.bind_some, b228_0, b228_1, b228_2, b228_3, m_v hb, m_R1 hb, m_R8 hb, m_a1 hb, m_a8 hb, m_of0 hb hr, m_of1 hb hr, m_of2 hb hr, m_of3 hb hr, m_of4 hb hr, m_of5 hb hr, m_of6 hb hr, m_of7 hb hr, m_of8 hb hr, m_of9 hb hr, m_of10 hb hr, m_of11 hb hr, m_of12 hb hr, m_of13 hb hr, m_of14 hb hr, m_of15 hb hr, m_of16 hb hr, m_of17 hb hr, m_of18 hb hr, m_of19 hb hr, m_lay0 hb hr, m_lay1 hb hr, m_lay2 hb hr, m_lay3 hb hr, m_lay4 hb hr, m_lay5 hb hr, m_lay6 hb hr, m_lay7 hb hr, m_lay8 hb hr, m_lay9 hb hr, m_lay10 hb hr, m_lay11 hb hr, m_lay12 hb hr, m_lay13 hb hr, m_lay14 hb hr, m_lay15 hb hr, m_lay16 hb hr, m_lay17 hb hr, m_lay18 hb hr, m_lay19 hb hr, m_add13 hb hr, m_add14 hb hr, m_add16 hb hr, m_add17 hb hr, m_add18 hb hr, m_add19 hb hr, wZ_1, wZ_z, wZ_8, wZ_wZ, m_s1 hb, mA_wZ, ei, ix4p, bd_nI, sh_step z h4, nI_1]
    exact ih (k + 1) fuel (by omega) (by omega) (by omega)
theorem sh_4 (z : Nat → Int32) : shZ z 4 = z := by
  funext i
  exact if_neg (by omega)
theorem z_log (hb : b ≤ 134) {M : MV} {r n : Nat} (hr : r < 8) (hz : M.2 1 3 = nI n) (hn : n ≤ 16) (s : Int32) : b_X4_become_67 (hm G b M) b (nI r) s = some (hm G b (wZ M (lgZ (M.2 1) n r s))) := by
  simp only [b_X4_become_67, Option.bind_some, b228_0, b228_1, b228_2, b228_3, m_v hb, m_R1 hb, m_R8 hb, m_a1 hb, m_a8 hb, m_of0 hb hr, m_of1 hb hr, m_of2 hb hr, m_of3 hb hr, m_of4 hb hr, m_of5 hb hr, m_of6 hb hr, m_of7 hb hr, m_of8 hb hr, m_of9 hb hr, m_of10 hb hr, m_of11 hb hr, m_of12 hb hr, m_of13 hb hr, m_of14 hb hr, m_of15 hb hr, m_of16 hb hr, m_of17 hb hr, m_of18 hb hr, m_of19 hb hr, m_lay0 hb hr, m_lay1 hb hr, m_lay2 hb hr, m_lay3 hb hr, m_lay4 hb hr, m_lay5 hb hr, m_lay6 hb hr, m_lay7 hb hr, m_lay8 hb hr, m_lay9 hb hr, m_lay10 hb hr, m_lay11 hb hr, m_lay12 hb hr, m_lay13 hb hr, m_lay14 hb hr, m_lay15 hb hr, m_lay16 hb hr, m_lay17 hb hr, m_lay18 hb hr, m_lay19 hb hr, m_add13 hb hr, m_add14 hb hr, m_add16 hb hr, m_add17 hb hr, m_add18 hb hr, m_add19 hb hr, wZ_1, wZ_z, wZ_8, wZ_wZ, hz]
  unfold lgZ
  by_cases h : n = 16
  · subst h
    rw [if_pos (by decide), if_pos rfl]
    have := z_shift (G := G) hb (M := M) hr (M.2 1) hz s 60 4 FU (by omega) (by omega) (by rw [FU_eq]; omega)
    rw [sh_4, wZ_self] at this
    exact this
  · rw [if_neg, if_neg h, z_entry hb hr hz (by omega)]
    rw [show (16 : Int32) = nI 16 from rfl, nI_eq (by omega) (by omega)]
    exact h
/-- the mask of rails that fell, after an entry -/
def falE (f : Int32) (e : Int32 × Int32 × Int32) : Int32 := f ||| (if e.2.1 < 4 then 0 else (1 : Int32) <<< (e.1 &&& 31))
/-- what a step of the model does: its rows become V, it makes the entries es -/
def ZT (M M' : MV) (V : Nat → Nat → Int32) (es : List (Int32 × Int32 × Int32)) : Prop :=
  rowZ (M'.2 1) = V ∧ M'.1.1 6 = M.1.1 6 + nI es.length ∧ M'.1.1 7 = es.foldl falE (M.1.1 7) ∧ (∀ k, k ≠ 6 → k ≠ 7 → M'.1.1 k = M.1.1 k) ∧ M'.1.2 = M.1.2 ∧ (∀ k, k ≠ 1 → M'.2 k = M.2 k) ∧ (∀ i, i < 3 → M'.2 1 i = M.2 1 i) ∧ (∀ q, q < 8 → M'.2 1 (68 + 20 * q + 8) = M.2 1 (68 + 20 * q + 8)) ∧ ∀ l, LRel l (M.2 1) → LRel (es.foldl (pushL (M.2 1 2)) l) (M'.2 1)
theorem ZT_refl (M : MV) : ZT M M (rowZ (M.2 1)) [] := ⟨rfl, (Int32.add_zero _).symm, rfl, fun _ _ _ => rfl, rfl, fun _ _ => rfl, fun _ _ => rfl, fun _ _ => rfl, fun _ h => h⟩
theorem ZT_trans {M M1 M2 : MV} {V1 V2 : Nat → Nat → Int32} {e1 e2 : List (Int32 × Int32 × Int32)} (h1 : ZT M M1 V1 e1) (h2 : ZT M1 M2 V2 e2) : ZT M M2 V2 (e1 ++ e2) := by
  obtain ⟨a1, a2, a3, a4, a5, a6, a7, a8, a9⟩ := h1
  obtain ⟨b1, b2, b3, b4, b5, b6, b7, b8, b9⟩ := h2
  refine ⟨b1, ?_, ?_, fun k h6 h7 => (b4 k h6 h7).trans (a4 k h6 h7), b5.trans a5, fun k h => (b6 k h).trans (a6 k h), fun i h => (b7 i h).trans (a7 i h), fun q h => (b8 q h).trans (a8 q h), fun l h => ?_⟩
  · rw [b2, a2, List.length_append, ← nI_add, Int32.add_assoc]
  · rw [b3, a3, List.foldl_append]
  · rw [List.foldl_append, ← a7 2 (by omega)]
    exact b9 _ (by rw [a7 2 (by omega)]; exact a9 l h)
theorem LRel_same {l : LG} {z z' : Nat → Int32} (h : ∀ i, i < 68 → z' i = z i) (hl : LRel l z) : LRel l z' := by
  obtain ⟨n, hn, h1, h2, h3⟩ := hl
  refine ⟨n, hn, h1, (h 3 (by omega)).trans h2, fun j i hj hi => ?_⟩
  rw [h3 j i hj hi, h _ (by omega)]
theorem ZT_lay (M : MV) {r k : Nat} (hr : r < 8) (hk : k < 20) (h8 : k ≠ 8) (x : Int32) : ZT M (wZ M (upd (M.2 1) (68 + 20 * r + k) x)) (setRow (rowZ (M.2 1)) r (upd (rowZ (M.2 1) r) k x)) [] := by
  refine ⟨rz_upd _ r hk h8 x, (Int32.add_zero _).symm, rfl, fun _ _ _ => rfl, rfl, fun k h => wZ_n _ _ h, fun i h => ?_, fun q h => ?_, fun l h => ?_⟩
  · exact upd_n (by omega)
  · exact upd_n (by omega)
  · exact LRel_same (fun i hi => upd_n (by omega)) h
theorem ZT_log (M : MV) {r n : Nat} (hr : r < 8) (hz : M.2 1 3 = nI n) (hn : n ≤ 16) (s : Int32) : ZT M (wZ (mS (mS M 6 (M.1.1 6 + 1)) 7 (M.1.1 7 ||| (if s < 4 then 0 else (1 : Int32) <<< (nI r &&& 31)))) (lgZ (M.2 1) n r s)) (rowZ (M.2 1)) [(nI r, s, rowZ (M.2 1) r 15)] := by
  refine ⟨row_hi (fun i hi => lg_hi _ s hn (Or.inl hi)), rfl, rfl, fun k h6 h7 => ?_, rfl, fun k h => wZ_n _ _ h, fun i h => lg_hi _ s hn (Or.inr h), fun q h => lg_hi _ s hn (by omega), fun l h => LRel_push hz hn h s⟩
  show (if k = 7 then _ else if k = 6 then _ else _) = _
  rw [if_neg h7, if_neg h6]
theorem ZT_log3 {M M' : MV} {V : Nat → Nat → Int32} {es : List (Int32 × Int32 × Int32)} (h : ZT M M' V es) {l : LG} (hl : LRel l (M.2 1)) : ∃ l, LRel l (M'.2 1) := ⟨_, h.2.2.2.2.2.2.2.2 l hl⟩
theorem mS_wZ (M : MV) (f : Nat → Int32) (k : Nat) (x : Int32) : mS (wZ M f) k x = wZ (mS M k x) f := rfl
theorem z_become (hb : b ≤ 134) {M : MV} {r : Nat} (hr : r < 8) {l : LG} (hl : LRel l (M.2 1)) (s : Int32) : ∃ M', f_X4_become (hm G b M) b (nI r) s = some (hm G b M') ∧ ZT M M' (setRow (rowZ (M.2 1)) r (becR s (rowZ (M.2 1) r))) [(nI r, s, rowZ (M.2 1) r 15)] := by
  obtain ⟨n, hn, _, hz, _⟩ := hl
  have t1 := ZT_lay M hr (k := 9) (by decide) (by decide) s
  have key : ∀ (x : Int32) (Q : MV), b_X4_become_35 (hm G b Q) b (nI r) s b x (if s < 4 then 0 else (1 : Int32) <<< (nI r &&& 31)) = (if s = 2 then b_X4_become_63 (hm G b (mS Q 7 (x ||| (if s < 4 then 0 else (1 : Int32) <<< (nI r &&& 31))))) b (nI r) s b (nI r) 16 0 else if s = 3 then b_X4_become_63 (hm G b (mS Q 7 (x ||| (if s < 4 then 0 else (1 : Int32) <<< (nI r &&& 31))))) b (nI r) s b (nI r) 16 1 else b_X4_become_67 (hm G b (mS Q 7 (x ||| (if s < 4 then 0 else (1 : Int32) <<< (nI r &&& 31))))) b (nI r) s) := by
    intro x Q
    simp only [b_X4_become_35, b_X4_become_49, m_P7 hb, Option.bind_some]
    by_cases h2 : s = 2
    · simp only [h2, if_true]
    · by_cases h3 : s = 3
      · simp only [h3, if_true, nl0_1, nl0_2, nl0_3, nl0_4, nl0_5, nl0_6, nl0_m1, nl1_0, nl1_2, nl1_3, nl1_4, nl1_5, nl1_6, nl1_m1, nl2_0, nl2_1, nl2_3, nl2_4, nl2_5, nl2_6, nl2_m1, nl3_0, nl3_1, nl3_2, nl3_4, nl3_5, nl3_6, nl3_m1, nl4_0, nl4_1, nl4_2, nl4_3, nl4_5, nl4_6, nl4_m1, nl5_0, nl5_1, nl5_2, nl5_3, nl5_4, nl5_6, nl5_m1, nl6_0, nl6_1, nl6_2, nl6_3, nl6_4, nl6_5, nl6_m1, nlm1_0, nlm1_1, nlm1_2, nlm1_3, nlm1_4, nlm1_5, nlm1_6, if_false]
      · simp only [h2, h3, if_false]
  have start : f_X4_become (hm G b M) b (nI r) s = b_X4_become_35 (hm G b (mS (wZ M (upd (M.2 1) (68 + 20 * r + 9) s)) 6 (M.1.1 6 + 1))) b (nI r) s b (M.1.1 7) (if s < 4 then 0 else (1 : Int32) <<< (nI r &&& 31)) := by
    simp only [f_X4_become, Option.bind_some, b228_0, b228_1, b228_2, b228_3, m_v hb, m_R1 hb, m_R8 hb, m_a1 hb, m_a8 hb, m_of0 hb hr, m_of1 hb hr, m_of2 hb hr, m_of3 hb hr, m_of4 hb hr, m_of5 hb hr, m_of6 hb hr, m_of7 hb hr, m_of8 hb hr, m_of9 hb hr, m_of10 hb hr, m_of11 hb hr, m_of12 hb hr, m_of13 hb hr, m_of14 hb hr, m_of15 hb hr, m_of16 hb hr, m_of17 hb hr, m_of18 hb hr, m_of19 hb hr, m_lay0 hb hr, m_lay1 hb hr, m_lay2 hb hr, m_lay3 hb hr, m_lay4 hb hr, m_lay5 hb hr, m_lay6 hb hr, m_lay7 hb hr, m_lay8 hb hr, m_lay9 hb hr, m_lay10 hb hr, m_lay11 hb hr, m_lay12 hb hr, m_lay13 hb hr, m_lay14 hb hr, m_lay15 hb hr, m_lay16 hb hr, m_lay17 hb hr, m_lay18 hb hr, m_lay19 hb hr, m_add13 hb hr, m_add14 hb hr, m_add16 hb hr, m_add17 hb hr, m_add18 hb hr, m_add19 hb hr, wZ_1, wZ_z, wZ_8, wZ_wZ, m_I6 hb, m_P6 hb, m_I7 hb, mS_1, if_neg (show ¬ 7 = 6 by decide)]
    by_cases h4 : s < 4 <;> simp only [h4, if_true, if_false]
  rw [start, key]
  by_cases h2 : s = 2
  · subst h2
    have t2 := ZT_lay (wZ M (upd (M.2 1) (68 + 20 * r + 9) 2)) hr (k := 16) (by decide) (by decide) (rowZ (upd (M.2 1) (68 + 20 * r + 9) 2) r 16 + 1)
    have t3 := ZT_log (wZ (wZ M (upd (M.2 1) (68 + 20 * r + 9) 2)) (upd (upd (M.2 1) (68 + 20 * r + 9) 2) (68 + 20 * r + 16) (rowZ (upd (M.2 1) (68 + 20 * r + 9) 2) r 16 + 1))) (n := n) hr (by rw [wZ_z, upd_n (by omega), upd_n (by omega)]; exact hz) hn 2
    have t := ZT_trans (ZT_trans t1 t2) t3
    simp only [wZ_z, wZ_wZ, wZ_1, mS_wZ, rz_upd _ r (show 16 < 20 by decide) (show 16 ≠ 8 by decide), rz_upd _ r (show 9 < 20 by decide) (show 9 ≠ 8 by decide), sr_at, sr_sr, List.nil_append, upd_n (show 16 ≠ 9 by decide), upd_n (show 15 ≠ 9 by decide), upd_n (show 15 ≠ 16 by decide)] at t
    refine ⟨_, ?_, t⟩
    simp only [if_true, b_X4_become_63, show (16 : Int32) + 0 = 16 from rfl, mS_wZ, Option.bind_some, b228_0, b228_1, b228_2, b228_3, m_v hb, m_R1 hb, m_R8 hb, m_a1 hb, m_a8 hb, m_of0 hb hr, m_of1 hb hr, m_of2 hb hr, m_of3 hb hr, m_of4 hb hr, m_of5 hb hr, m_of6 hb hr, m_of7 hb hr, m_of8 hb hr, m_of9 hb hr, m_of10 hb hr, m_of11 hb hr, m_of12 hb hr, m_of13 hb hr, m_of14 hb hr, m_of15 hb hr, m_of16 hb hr, m_of17 hb hr, m_of18 hb hr, m_of19 hb hr, m_lay0 hb hr, m_lay1 hb hr, m_lay2 hb hr, m_lay3 hb hr, m_lay4 hb hr, m_lay5 hb hr, m_lay6 hb hr, m_lay7 hb hr, m_lay8 hb hr, m_lay9 hb hr, m_lay10 hb hr, m_lay11 hb hr, m_lay12 hb hr, m_lay13 hb hr, m_lay14 hb hr, m_lay15 hb hr, m_lay16 hb hr, m_lay17 hb hr, m_lay18 hb hr, m_lay19 hb hr, m_add13 hb hr, m_add14 hb hr, m_add16 hb hr, m_add17 hb hr, m_add18 hb hr, m_add19 hb hr, wZ_1, wZ_z, wZ_8, wZ_wZ]
    rw [z_log hb hr (n := n) (by rw [wZ_z, upd_n (by omega), upd_n (by omega)]; exact hz) hn]
    simp only [wZ_z, wZ_wZ, wZ_1, mS_2, rz_upd _ r (show 16 < 20 by decide) (show 16 ≠ 8 by decide), rz_upd _ r (show 9 < 20 by decide) (show 9 ≠ 8 by decide), sr_at, sr_sr, upd_n (show 16 ≠ 9 by decide)]
  · by_cases h3 : s = 3
    · subst h3
      have t2 := ZT_lay (wZ M (upd (M.2 1) (68 + 20 * r + 9) 3)) hr (k := 17) (by decide) (by decide) (rowZ (upd (M.2 1) (68 + 20 * r + 9) 3) r 17 + 1)
      have t3 := ZT_log (wZ (wZ M (upd (M.2 1) (68 + 20 * r + 9) 3)) (upd (upd (M.2 1) (68 + 20 * r + 9) 3) (68 + 20 * r + 17) (rowZ (upd (M.2 1) (68 + 20 * r + 9) 3) r 17 + 1))) (n := n) hr (by rw [wZ_z, upd_n (by omega), upd_n (by omega)]; exact hz) hn 3
      have t := ZT_trans (ZT_trans t1 t2) t3
      simp only [wZ_z, wZ_wZ, wZ_1, mS_wZ, rz_upd _ r (show 17 < 20 by decide) (show 17 ≠ 8 by decide), rz_upd _ r (show 9 < 20 by decide) (show 9 ≠ 8 by decide), sr_at, sr_sr, List.nil_append, upd_n (show 17 ≠ 9 by decide), upd_n (show 15 ≠ 9 by decide), upd_n (show 15 ≠ 17 by decide)] at t
      refine ⟨_, ?_, t⟩
      simp only [if_true, if_false, nl0_1, nl0_2, nl0_3, nl0_4, nl0_5, nl0_6, nl0_m1, nl1_0, nl1_2, nl1_3, nl1_4, nl1_5, nl1_6, nl1_m1, nl2_0, nl2_1, nl2_3, nl2_4, nl2_5, nl2_6, nl2_m1, nl3_0, nl3_1, nl3_2, nl3_4, nl3_5, nl3_6, nl3_m1, nl4_0, nl4_1, nl4_2, nl4_3, nl4_5, nl4_6, nl4_m1, nl5_0, nl5_1, nl5_2, nl5_3, nl5_4, nl5_6, nl5_m1, nl6_0, nl6_1, nl6_2, nl6_3, nl6_4, nl6_5, nl6_m1, nlm1_0, nlm1_1, nlm1_2, nlm1_3, nlm1_4, nlm1_5, nlm1_6, b_X4_become_63, show (16 : Int32) + 1 = 17 from rfl, mS_wZ, Option.bind_some, b228_0, b228_1, b228_2, b228_3, m_v hb, m_R1 hb, m_R8 hb, m_a1 hb, m_a8 hb, m_of0 hb hr, m_of1 hb hr, m_of2 hb hr, m_of3 hb hr, m_of4 hb hr, m_of5 hb hr, m_of6 hb hr, m_of7 hb hr, m_of8 hb hr, m_of9 hb hr, m_of10 hb hr, m_of11 hb hr, m_of12 hb hr, m_of13 hb hr, m_of14 hb hr, m_of15 hb hr, m_of16 hb hr, m_of17 hb hr, m_of18 hb hr, m_of19 hb hr, m_lay0 hb hr, m_lay1 hb hr, m_lay2 hb hr, m_lay3 hb hr, m_lay4 hb hr, m_lay5 hb hr, m_lay6 hb hr, m_lay7 hb hr, m_lay8 hb hr, m_lay9 hb hr, m_lay10 hb hr, m_lay11 hb hr, m_lay12 hb hr, m_lay13 hb hr, m_lay14 hb hr, m_lay15 hb hr, m_lay16 hb hr, m_lay17 hb hr, m_lay18 hb hr, m_lay19 hb hr, m_add13 hb hr, m_add14 hb hr, m_add16 hb hr, m_add17 hb hr, m_add18 hb hr, m_add19 hb hr, wZ_1, wZ_z, wZ_8, wZ_wZ]
      rw [z_log hb hr (n := n) (by rw [wZ_z, upd_n (by omega), upd_n (by omega)]; exact hz) hn]
      simp only [wZ_z, wZ_wZ, wZ_1, mS_2, rz_upd _ r (show 17 < 20 by decide) (show 17 ≠ 8 by decide), rz_upd _ r (show 9 < 20 by decide) (show 9 ≠ 8 by decide), sr_at, sr_sr, upd_n (show 17 ≠ 9 by decide)]
    · have t3 := ZT_log (wZ M (upd (M.2 1) (68 + 20 * r + 9) s)) (n := n) hr (by rw [wZ_z, upd_n (by omega)]; exact hz) hn s
      have t := ZT_trans t1 t3
      simp only [wZ_z, wZ_wZ, wZ_1, mS_wZ, rz_upd _ r (show 9 < 20 by decide) (show 9 ≠ 8 by decide), sr_at, sr_sr, List.nil_append, upd_n (show 15 ≠ 9 by decide)] at t
      refine ⟨_, ?_, by unfold becR; rw [if_neg h2, if_neg h3]; exact t⟩
      simp only [h2, h3, if_false, mS_wZ]
      rw [z_log hb hr (n := n) (by rw [wZ_z, upd_n (by omega)]; exact hz) hn]
      simp only [wZ_z, wZ_wZ, wZ_1, mS_2]
