/-! the model's tick -/
def ZU (M M' : MV) (V : Nat → Nat → Int32) (es : List (Int32 × Int32 × Int32)) : Prop :=
  rowZ (M'.2 1) = V ∧ M'.1.1 6 = M.1.1 6 + nI es.length ∧ M'.1.1 7 = es.foldl falE (M.1.1 7) ∧ (∀ k, k ≠ 6 → k ≠ 7 → M'.1.1 k = M.1.1 k) ∧ M'.1.2 = M.1.2 ∧ (∀ k, k ≠ 1 → k ≠ 8 → M'.2 k = M.2 k) ∧ (∀ i, i < 3 → M'.2 1 i = M.2 1 i) ∧ (∀ q, q < 8 → M'.2 1 (68 + 20 * q + 8) = M.2 1 (68 + 20 * q + 8)) ∧ ∀ l, LRel l (M.2 1) → LRel (es.foldl (pushL (M.2 1 2)) l) (M'.2 1)
theorem ZU_refl (M : MV) : ZU M M (rowZ (M.2 1)) [] := ⟨rfl, (Int32.add_zero _).symm, rfl, fun _ _ _ => rfl, rfl, fun _ _ _ => rfl, fun _ _ => rfl, fun _ _ => rfl, fun _ h => h⟩
theorem ZT_U {M M' : MV} {V : Nat → Nat → Int32} {es : List (Int32 × Int32 × Int32)} (h : ZT M M' V es) : ZU M M' V es := by
  obtain ⟨a1, a2, a3, a4, a5, a6, a7, a8, a9⟩ := h
  exact ⟨a1, a2, a3, a4, a5, fun k h _ => a6 k h, a7, a8, a9⟩
theorem ZU_trans {M M1 M2 : MV} {V1 V2 : Nat → Nat → Int32} {e1 e2 : List (Int32 × Int32 × Int32)} (h1 : ZU M M1 V1 e1) (h2 : ZU M1 M2 V2 e2) : ZU M M2 V2 (e1 ++ e2) := by
  obtain ⟨a1, a2, a3, a4, a5, a6, a7, a8, a9⟩ := h1
  obtain ⟨b1, b2, b3, b4, b5, b6, b7, b8, b9⟩ := h2
  refine ⟨b1, ?_, ?_, fun k h6 h7 => (b4 k h6 h7).trans (a4 k h6 h7), b5.trans a5, fun k h h8 => (b6 k h h8).trans (a6 k h h8), fun i h => (b7 i h).trans (a7 i h), fun q h => (b8 q h).trans (a8 q h), fun l h => ?_⟩
  · rw [b2, a2, List.length_append, ← nI_add, Int32.add_assoc]
  · rw [b3, a3, List.foldl_append]
  · rw [List.foldl_append, ← a7 2 (by omega)]
    exact b9 _ (by rw [a7 2 (by omega)]; exact a9 l h)
variable {G : Nat → MC} {b : Nat}
theorem z_moveLoop (hb : b ≤ 134) {n : Nat} (hn8 : n ≤ 8) : ∀ (m k fuel : Nat) (M : MV), M.2 1 0 = nI n → (∀ q, k ≤ q → q < n → sm (rowZ (M.2 1) q 10) ∧ sm (rowZ (M.2 1) q 0) ∧ sm (rowZ (M.2 1) q 1) ∧ sm (rowZ (M.2 1) q 2)) → k + m = n → m < fuel →
    ∃ M', f_X4_pass_2 fuel (hm G b M) b (nI k) = f_X4_pass_38 FU (hm G b M') b 0 ∧ ZU M M' (rowsF (fun _ => mvR) (rowZ (M.2 1)) k m) [] ∧ ∀ q, M'.2 8 q = if k ≤ q ∧ q < k + m then rowZ (M.2 1) q 9 else M.2 8 q := by
  intro m
  induction m with
  | zero =>
    intro k fuel M hn hs hk hf
    obtain ⟨fuel, rfl⟩ : ∃ f, fuel = f + 1 := ⟨fuel - 1, by omega⟩
    refine ⟨M, ?_, by rw [rowsF_0]; exact ZU_refl M, fun q => (if_neg (by omega)).symm⟩
    show b_X4_pass_2 _ _ _ _ = _
    simp only [b_X4_pass_2, Option.bind_some, b228_0, b228_1, b228_2, b228_3, m_v hb, m_R1 hb, m_R8 hb, m_a1 hb, m_a8 hb, wZ_1, wZ_z, wZ_8, wZ_wZ, hn]
    rw [if_pos (nI_le (by omega) (by omega))]
  | succ m ih =>
    intro k fuel M hn hs hk hf
    obtain ⟨fuel, rfl⟩ : ∃ f, fuel = f + 1 := ⟨fuel - 1, by omega⟩
    have hk8 : k < 8 := by omega
    obtain ⟨s1, s2, s3, s4⟩ := hs k (by omega) (by omega)
    obtain ⟨M1, g1, g2⟩ := z_moveV (G := G) hb (M := M) hk8 s1 s2 s3 s4
    have hrow : rowZ (M1.2 1) = setRow (rowZ (M.2 1)) k (mvR (rowZ (M.2 1) k)) := g2.1
    have h9 : rowZ (M1.2 1) k 9 = rowZ (M.2 1) k 9 := by
      rw [hrow, sr_at]
      exact upd_n (by decide)
    have hU : ZU M (mA M1 8 k (rowZ (M.2 1) k 9)) (setRow (rowZ (M.2 1)) k (mvR (rowZ (M.2 1) k))) [] := by
      obtain ⟨a1, a2, a3, a4, a5, a6, a7, a8, a9⟩ := ZT_U g2
      exact ⟨a1, a2, a3, a4, a5, fun j h h8 => (if_neg h8).trans (a6 j h h8), a7, a8, a9⟩
    have hz1 : (mA M1 8 k (rowZ (M.2 1) k 9)).2 1 = M1.2 1 := by rw [mA_2, if_neg (by decide)]
    obtain ⟨M2, k1, k2, k3⟩ := ih (k + 1) fuel (mA M1 8 k (rowZ (M.2 1) k 9)) (by rw [hz1, g2.2.2.2.2.2.2.1 0 (by omega)]; exact hn) (fun q h1 h2 => by
      rw [hz1, hrow, sr_ne _ _ (by omega)]
      exact hs q (by omega) h2) (by omega) (by omega)
    refine ⟨M2, ?_, ?_, fun q => ?_⟩
    · show b_X4_pass_2 _ _ _ _ = _
      simp only [b_X4_pass_2, Option.bind_some, b228_0, b228_1, b228_2, b228_3, m_v hb, m_R1 hb, m_R8 hb, m_a1 hb, m_a8 hb, wZ_1, wZ_z, wZ_8, wZ_wZ, hn]
      rw [if_neg (nI_ge (by omega) (by omega)), g1, Option.bind_some]
      simp (disch := omega) only [m_R8 hb, m_v hb, m_of9 hb hk8, m_s8 hb, bd_nI, Option.bind_some, h9, nI_1]
      exact k1
    · have t := ZU_trans hU k2
      rw [hz1, hrow, rowsF_s] at t
      exact t
    · rw [k3 q]
      by_cases hq : k + 1 ≤ q ∧ q < k + 1 + m
      · rw [if_pos hq, if_pos (by omega), hz1, hrow, sr_ne _ _ (by omega)]
      · rw [if_neg hq]
        show upd (M1.2 8) k (rowZ (M.2 1) k 9) q = _
        by_cases hqk : q = k
        · subst hqk
          rw [upd_s, if_pos (by omega)]
        · rw [upd_n hqk, if_neg (by omega), g2.2.2.2.2.2.1 8 (by decide)]
theorem z_lookLoop (hb : b ≤ 134) {n : Nat} (hn8 : n ≤ 8) (V : Nat → Nat → Int32) (w : Int32) : ∀ (m k fuel : Nat) (M : MV) (l : LG), M.2 1 0 = nI n → LRel l (M.2 1) → rowZ (M.2 1) = rowsT (lookR (M.2 8) V w (M.2 1 1) n) V k → (∀ q, q < n → M.2 1 (68 + 20 * q + 8) = if tb w q = true then 1 else 0) → (∀ q, q < n → M.2 8 q = V q 9 ∧ st6 (V q 9)) → k + m = n → m < fuel →
    ∃ M', f_X4_pass_38 fuel (hm G b M) b (nI k) = f_X4_pass_61 FU (hm G b M') b 0 ∧ ZT M M' (rowsT (lookR (M.2 8) V w (M.2 1 1) n) V n) (entF (M.2 8) V w (M.2 1 1) n k m) := by
  intro m
  induction m with
  | zero =>
    intro k fuel M l hn hl hV hw hS hk hf
    obtain ⟨fuel, rfl⟩ : ∃ f, fuel = f + 1 := ⟨fuel - 1, by omega⟩
    obtain rfl : k = n := by omega
    refine ⟨M, ?_, by rw [← hV]; exact ZT_refl M⟩
    show b_X4_pass_38 _ _ _ _ = _
    simp only [b_X4_pass_38, Option.bind_some, b228_0, b228_1, b228_2, b228_3, m_v hb, m_R1 hb, m_R8 hb, m_a1 hb, m_a8 hb, wZ_1, wZ_z, wZ_8, wZ_wZ, hn]
    rw [if_pos (nI_le (by omega) (by omega))]
  | succ m ih =>
    intro k fuel M l hn hl hV hw hS hk hf
    obtain ⟨fuel, rfl⟩ : ∃ f, fuel = f + 1 := ⟨fuel - 1, by omega⟩
    have hk8 : k < 8 := by omega
    have hVk : rowZ (M.2 1) k = V k := by rw [hV, rowsT_at]
    obtain ⟨M1, g1, g2⟩ := z_look (G := G) hb (M := M) (r := k) (n := n) (w := w) (by omega) hn hn8 hl (hw k (by omega)) (by rw [hVk]; exact (hS k (by omega)).1) (by rw [hVk]; exact (hS k (by omega)).2)
    have hkeep := fun q j h => lookR_keep (M.2 8) V w (M.2 1 1) n q j h
    have hst : stepT (M.2 8) (rowZ (M.2 1)) w (M.2 1 1) n k = stepT (M.2 8) V w (M.2 1 1) n k := by
      rw [hV]
      exact stepT_mid _ _ _ _ _ _ _ hkeep
    have hlk : lookR (M.2 8) (rowZ (M.2 1)) w (M.2 1 1) n k = lookR (M.2 8) V w (M.2 1 1) n k := by
      unfold lookR
      rw [hst, hVk]
    have hen : entR (M.2 8) (rowZ (M.2 1)) w (M.2 1 1) n k = entR (M.2 8) V w (M.2 1 1) n k := by
      unfold entR
      rw [hst, hVk]
    rw [hlk, hen, hV, rowsT_s] at g2
    have g2' := g2
    obtain ⟨a1, a2, a3, a4, a5, a6, a7, a8, a9⟩ := g2'
    have e8 := a6 8 (by decide)
    have e1 := a7 1 (by omega)
    obtain ⟨M2, k1, k2⟩ := ih (k + 1) fuel M1 _ (by rw [a7 0 (by omega)]; exact hn) (a9 l hl) (by rw [a1, e8, e1]) (fun q hq => by rw [a8 q (by omega)]; exact hw q hq) (fun q hq => by rw [e8]; exact hS q hq) (by omega) (by omega)
    rw [e8, e1] at k2
    refine ⟨M2, ?_, ZT_trans g2 k2⟩
    show b_X4_pass_38 _ _ _ _ = _
    simp only [b_X4_pass_38, Option.bind_some, b228_0, b228_1, b228_2, b228_3, m_v hb, m_R1 hb, m_R8 hb, m_a1 hb, m_a8 hb, wZ_1, wZ_z, wZ_8, wZ_wZ, hn]
    rw [if_neg (nI_ge (by omega) (by omega)), g1, Option.bind_some, nI_1]
    exact k1
theorem z_endStep (hb : b ≤ 134) {M : MV} {r n : Nat} (hr : r < n) (hn : M.2 1 0 = nI n) (hn8 : n ≤ 8) (h12 : 0 ≤ (rowZ (M.2 1) r 12).toInt) (rec61 : MH → Nat → Int32 → Option MH) :
    ∃ M', b_X4_pass_61 rec61 (hm G b M) b (nI r) = rec61 (hm G b M') b (nI (r + 1)) ∧ ZT M M' (setRow (rowZ (M.2 1)) r (endR (rowZ (M.2 1) r))) [] := by
  have hr8 : r < 8 := by omega
  have e98 : ∀ x : Int32, ∃ M', b_X4_pass_98 rec61 (hm G b M) b (nI r) b (nI r) 12 x = rec61 (hm G b M') b (nI (r + 1)) ∧ ZT M M' (setRow (rowZ (M.2 1)) r (if rowZ (M.2 1) r 9 = 3 then upd (upd (rowZ (M.2 1) r) 12 x) 19 (rowZ (M.2 1) r 19 + 1) else upd (rowZ (M.2 1) r) 12 x)) [] := by
    intro x
    have hr := hr8
    have t1 := ZT_lay M hr (k := 12) (by decide) (by decide) x
    have er : rowZ (upd (M.2 1) (68 + 20 * r + 12) x) r = upd (rowZ (M.2 1) r) 12 x := ZL_row (by decide) (by decide) _
    simp only [b_X4_pass_98, b_X4_pass_119, Option.bind_some, b228_0, b228_1, b228_2, b228_3, m_v hb, m_R1 hb, m_R8 hb, m_a1 hb, m_a8 hb, m_of0 hb hr, m_of1 hb hr, m_of2 hb hr, m_of3 hb hr, m_of4 hb hr, m_of5 hb hr, m_of6 hb hr, m_of7 hb hr, m_of8 hb hr, m_of9 hb hr, m_of10 hb hr, m_of11 hb hr, m_of12 hb hr, m_of13 hb hr, m_of14 hb hr, m_of15 hb hr, m_of16 hb hr, m_of17 hb hr, m_of18 hb hr, m_of19 hb hr, m_lay0 hb hr, m_lay1 hb hr, m_lay2 hb hr, m_lay3 hb hr, m_lay4 hb hr, m_lay5 hb hr, m_lay6 hb hr, m_lay7 hb hr, m_lay8 hb hr, m_lay9 hb hr, m_lay10 hb hr, m_lay11 hb hr, m_lay12 hb hr, m_lay13 hb hr, m_lay14 hb hr, m_lay15 hb hr, m_lay16 hb hr, m_lay17 hb hr, m_lay18 hb hr, m_lay19 hb hr, m_add13 hb hr, m_add14 hb hr, m_add16 hb hr, m_add17 hb hr, m_add18 hb hr, m_add19 hb hr, wZ_1, wZ_z, wZ_8, wZ_wZ, er, upd_n (show 9 ≠ 12 by decide), upd_n (show 19 ≠ 12 by decide), nI_1]
    by_cases h : rowZ (M.2 1) r 9 = 3
    · simp only [h, if_true]
      have t2 := ZT_trans t1 (ZT_lay (wZ M (upd (M.2 1) (68 + 20 * r + 12) x)) hr (k := 19) (by decide) (by decide) (rowZ (M.2 1) r 19 + 1))
      simp only [wZ_z, wZ_wZ, rz_upd _ r (show 12 < 20 by decide) (show 12 ≠ 8 by decide), sr_at, sr_sr, List.nil_append] at t2
      exact ⟨_, rfl, t2⟩
    · simp only [h, if_false]
      exact ⟨_, rfl, t1⟩
  have hr := hr8
  simp only [b_X4_pass_61, Option.bind_some, b228_0, b228_1, b228_2, b228_3, m_v hb, m_R1 hb, m_R8 hb, m_a1 hb, m_a8 hb, m_of0 hb hr, m_of1 hb hr, m_of2 hb hr, m_of3 hb hr, m_of4 hb hr, m_of5 hb hr, m_of6 hb hr, m_of7 hb hr, m_of8 hb hr, m_of9 hb hr, m_of10 hb hr, m_of11 hb hr, m_of12 hb hr, m_of13 hb hr, m_of14 hb hr, m_of15 hb hr, m_of16 hb hr, m_of17 hb hr, m_of18 hb hr, m_of19 hb hr, m_lay0 hb hr, m_lay1 hb hr, m_lay2 hb hr, m_lay3 hb hr, m_lay4 hb hr, m_lay5 hb hr, m_lay6 hb hr, m_lay7 hb hr, m_lay8 hb hr, m_lay9 hb hr, m_lay10 hb hr, m_lay11 hb hr, m_lay12 hb hr, m_lay13 hb hr, m_lay14 hb hr, m_lay15 hb hr, m_lay16 hb hr, m_lay17 hb hr, m_lay18 hb hr, m_lay19 hb hr, m_add13 hb hr, m_add14 hb hr, m_add16 hb hr, m_add17 hb hr, m_add18 hb hr, m_add19 hb hr, wZ_1, wZ_z, wZ_8, wZ_wZ, hn]
  rw [if_neg (nI_ge (by omega) (by omega))]
  unfold endR
  by_cases h : rowZ (M.2 1) r 12 ≤ 0
  · have e0 : rowZ (M.2 1) r 12 = 0 := by
      rw [Int32.le_iff_toInt_le] at h
      apply Int32.toInt_inj.1
      have : (0 : Int32).toInt = 0 := rfl
      omega
    simp only [h, if_true]
    have := e98 0
    rw [← e0, upd_self, e0] at this
    exact this
  · simp only [h, if_false]
    exact e98 _
theorem z_endLoop (hb : b ≤ 134) {n : Nat} (hn8 : n ≤ 8) : ∀ (m k fuel : Nat) (M : MV), M.2 1 0 = nI n → (∀ q, k ≤ q → q < n → 0 ≤ (rowZ (M.2 1) q 12).toInt) → k + m = n → m < fuel →
    ∃ M', f_X4_pass_61 fuel (hm G b M) b (nI k) = some (hm G b (wZ M' (upd (M'.2 1) 2 (M'.2 1 2 + 1)))) ∧ ZT M M' (rowsF (fun _ => endR) (rowZ (M.2 1)) k m) [] := by
  intro m
  induction m with
  | zero =>
    intro k fuel M hn hs hk hf
    obtain ⟨fuel, rfl⟩ : ∃ f, fuel = f + 1 := ⟨fuel - 1, by omega⟩
    refine ⟨M, ?_, by rw [rowsF_0]; exact ZT_refl M⟩
    show b_X4_pass_61 _ _ _ _ = _
    simp only [b_X4_pass_61, Option.bind_some, b228_0, b228_1, b228_2, b228_3, m_v hb, m_R1 hb, m_R8 hb, m_a1 hb, m_a8 hb, wZ_1, wZ_z, wZ_8, wZ_wZ, hn]
    rw [if_pos (nI_le (by omega) (by omega))]
    simp only [m_s1 hb, b228_2, Option.bind_some, mA_wZ]
  | succ m ih =>
    intro k fuel M hn hs hk hf
    obtain ⟨fuel, rfl⟩ : ∃ f, fuel = f + 1 := ⟨fuel - 1, by omega⟩
    obtain ⟨M1, g1, g2⟩ := z_endStep (G := G) hb (M := M) (r := k) (n := n) (by omega) hn hn8 (hs k (by omega) (by omega)) (f_X4_pass_61 fuel)
    obtain ⟨M2, k1, k2⟩ := ih (k + 1) fuel M1 (by rw [g2.2.2.2.2.2.2.1 0 (by omega)]; exact hn) (fun q h1 h2 => by
      rw [g2.1, sr_ne _ _ (by omega)]
      exact hs q (by omega) h2) (by omega) (by omega)
    rw [g2.1, rowsF_s] at k2
    exact ⟨M2, g1.trans k1, ZT_trans g2 k2⟩
theorem z_pass (hb : b ≤ 134) {n : Nat} (hn8 : n ≤ 8) {M : MV} {l : LG} {w : Int32} (hn : M.2 1 0 = nI n) (hl : LRel l (M.2 1)) (hw : ∀ q, q < n → M.2 1 (68 + 20 * q + 8) = if tb w q = true then 1 else 0) (hst : ∀ q, q < n → st6 (rowZ (M.2 1) q 9)) (hs : ∀ q, q < n → sm (rowZ (M.2 1) q 10) ∧ sm (rowZ (M.2 1) q 0) ∧ sm (rowZ (M.2 1) q 1) ∧ sm (rowZ (M.2 1) q 2)) (h12 : ∀ q, q < n → 0 ≤ (rowZ (M.2 1) q 12).toInt) :
    ∃ M', f_X4_pass (hm G b M) b = some (hm G b (wZ M' (upd (M'.2 1) 2 (M.2 1 2 + 1)))) ∧ ZU M M' (tkV (rowZ (M.2 1)) w (M.2 1 1) n) (tkE (rowZ (M.2 1)) w (M.2 1 1) n) := by
  obtain ⟨M1, a1, a2, a3⟩ := z_moveLoop (G := G) hb hn8 n 0 FU M hn (fun q _ h => hs q h) (by omega) (by rw [FU_eq]; omega)
  have a2' := a2
  obtain ⟨r1, r2, r3, r4, r5, r6, r7, r8, r9⟩ := a2'
  have hS : ∀ q, q < n → M1.2 8 q = rowZ (M.2 1) q 9 := fun q hq => by rw [a3 q, if_pos (by omega)]
  have hV9 : ∀ q, q < n → rowsF (fun _ => mvR) (rowZ (M.2 1)) 0 n q 9 = rowZ (M.2 1) q 9 := by
    intro q hq
    rw [rowsF_in hq]
    exact upd_n (by decide)
  obtain ⟨M2, b1, b2⟩ := z_lookLoop (G := G) hb hn8 (rowsF (fun _ => mvR) (rowZ (M.2 1)) 0 n) w n 0 FU M1 _ (by rw [r7 0 (by omega)]; exact hn) (r9 l hl) (by rw [r1, rowsT_0]) (fun q hq => by rw [r8 q (by omega)]; exact hw q hq) (fun q hq => by rw [hS q hq, hV9 q hq]; exact ⟨rfl, hst q hq⟩) (by omega) (by rw [FU_eq]; omega)
  rw [r7 1 (by omega)] at b2
  have hent : entF (M1.2 8) (rowsF (fun _ => mvR) (rowZ (M.2 1)) 0 n) w (M.2 1 1) n 0 n = tkE (rowZ (M.2 1)) w (M.2 1 1) n := entF_congr (fun q hq => ⟨hS q hq, rfl⟩) (fun _ _ => rfl) n 0 (by omega)
  have hrow : rowsT (lookR (M1.2 8) (rowsF (fun _ => mvR) (rowZ (M.2 1)) 0 n) w (M.2 1 1) n) (rowsF (fun _ => mvR) (rowZ (M.2 1)) 0 n) n = rowsT (lookR (fun q => rowZ (M.2 1) q 9) (rowsF (fun _ => mvR) (rowZ (M.2 1)) 0 n) w (M.2 1 1) n) (rowsF (fun _ => mvR) (rowZ (M.2 1)) 0 n) n := by
    funext q
    unfold rowsT
    by_cases hq : q < n
    · rw [if_pos hq, if_pos hq]
      exact lookR_congr hq (fun q hq => ⟨hS q hq, rfl⟩) rfl
    · rw [if_neg hq, if_neg hq]
  rw [hent, hrow] at b2
  have h2n : M2.2 1 0 = nI n := by rw [b2.2.2.2.2.2.2.1 0 (by omega), r7 0 (by omega)]; exact hn
  obtain ⟨M3, c1, c2⟩ := z_endLoop (G := G) hb hn8 n 0 FU M2 h2n (fun q _ hq => by
    rw [b2.1]
    unfold rowsT
    rw [if_pos hq, lookR_keep _ _ _ _ _ _ _ (by omega), rowsF_in hq]
    exact h12 q hq) (by omega) (by rw [FU_eq]; omega)
  rw [b2.1] at c2
  refine ⟨M3, ?_, ?_⟩
  · unfold f_X4_pass
    rw [show (0 : Int32) = nI 0 from rfl, a1, show (0 : Int32) = nI 0 from rfl, b1, show (0 : Int32) = nI 0 from rfl, c1, c2.2.2.2.2.2.2.1 2 (by omega), b2.2.2.2.2.2.2.1 2 (by omega), r7 2 (by omega)]
  · have t := ZU_trans a2 (ZU_trans (ZT_U b2) (ZT_U c2))
    rw [List.nil_append, List.append_nil] at t
    exact t
