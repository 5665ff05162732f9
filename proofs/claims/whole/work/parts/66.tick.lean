/-! commands: tick -/
/-- a tick of the plant: from P to P' -/
def PT (n : Nat) (P P' : PV) : Prop := (∀ r, r < n → rowP P' r = tkV (rowP P) (P.1 3) (P.1 2) n r) ∧ P'.1 0 = P.1 0 ∧ P'.1 1 = P.1 1 + 1 ∧ P'.1 2 = P.1 2 ∧ P'.1 3 = P.1 3 ∧ lgP P' = (tkE (rowP P) (P.1 3) (P.1 2) n).foldl (pushL (P.1 1)) (lgP P) ∧ ∀ r, r < 8 → P'.2 15 r = P.2 6 r ∧ P'.2 16 r = P.2 7 r ∧ P'.2 17 r = P.2 10 r
def eN (n : Nat) (P : PV) : Int32 := nI (tkE (rowP P) (P.1 3) (P.1 2) n).length
/-- m ticks of the plant, d entries -/
def PTs (n : Nat) : Nat → PV → PV → Int32 → Prop
  | 0 => fun P P' d => P' = P ∧ d = 0
  | m + 1 => fun P P' d => ∃ P1 d1, PT n P P1 ∧ PTs n m P1 P' d1 ∧ d = eN n P + d1
variable {G H : Nat → MC} {b : Nat}
theorem p_tick (hb : b ≤ 125) {P : PV} {n : Nat} (hn8 : n ≤ 8) (h0 : P.1 0 = nI n) : ∃ P', f_X1_passTick (hp G b P) b = some (eN n P, hp G b P') ∧ PT n P P' := by
  obtain ⟨P', a1, a2, a3, a4, a5, a6, a7, a8⟩ := a_passTick (G := G) (P := P) hb hn8 h0
  exact ⟨P', a1, a2, a3, a4, a5, a6, a7, a8⟩
theorem z_tick {P P' : PV} {M : MV} {n : Nat} (h : RZ n P (M.2 1)) (hp : PT n P P') : ∃ M', f_X4_pass (hm H 133 M) 133 = some (hm H 133 M') ∧ RZ n P' (M'.2 1) ∧ M'.1.1 6 = M.1.1 6 + eN n P ∧ M'.1.1 7 = (tkE (rowP P) (P.1 3) (P.1 2) n).foldl falE (M.1.1 7) ∧ (∀ k, k ≠ 6 → k ≠ 7 → M'.1.1 k = M.1.1 k) ∧ M'.1.2 = M.1.2 ∧ (∀ k, k ≠ 1 → k ≠ 8 → M'.2 k = M.2 k) := by
  obtain ⟨hn8, h0, z0, z1, z2, hrow, hw, hl, hwn, hok⟩ := h
  obtain ⟨a2, a3, a4, a5, a6, a7, a8⟩ := hp
  have hs : ∀ q, q < n → sm (rowZ (M.2 1) q 10) ∧ sm (rowZ (M.2 1) q 0) ∧ sm (rowZ (M.2 1) q 1) ∧ sm (rowZ (M.2 1) q 2) := by
    intro q hq
    rw [← hrow q hq]
    obtain ⟨b0, b1, b2, b3, b7, b9, b10, b12, b15⟩ := hok q hq
    unfold sm
    omega
  obtain ⟨M1, c1, c2⟩ := z_pass (G := H) (b := 133) (by decide) hn8 (M := M) (l := lgP P) (w := P.1 3) z0 hl hw (fun q hq => by rw [← hrow q hq]; exact (hok q hq).2.2.2.2.2.1) hs (fun q hq => by rw [← hrow q hq]; exact (hok q hq).2.2.2.2.2.2.2.1)
  rw [z1] at c2
  have eE : tkE (rowZ (M.2 1)) (P.1 3) (P.1 2) n = tkE (rowP P) (P.1 3) (P.1 2) n := tkE_congr (fun q hq => (hrow q hq).symm) (fun _ _ => rfl)
  rw [eE] at c2
  obtain ⟨r1, r2, r3, r4, r5, r6, r7, r8, r9⟩ := c2
  refine ⟨wZ M1 (upd (M1.2 1) 2 (M.2 1 2 + 1)), c1, ⟨hn8, a3.trans h0, ?_, ?_, ?_, fun q hq => ?_, fun q hq => ?_, ?_, by rw [a6]; exact hwn, fun q hq => ?_⟩, r2, r3, r4, r5, fun k h1 h8 => (wZ_n _ _ h1).trans (r6 k h1 h8)⟩
  · rw [wZ_z, upd_n (by decide), r7 0 (by decide)]
    exact z0
  · rw [wZ_z, upd_n (by decide), r7 1 (by decide), a5]
    exact z1
  · rw [wZ_z, upd_s, z2, a4]
  · rw [wZ_z, rz_updl _ (by decide), r1, a2 q hq]
    exact tkV_congr hrow (fun _ _ => rfl) q hq
  · rw [wZ_z, upd_n (by omega), r8 q (by omega), a6]
    exact hw q hq
  · rw [wZ_z]
    refine LRel_i (Or.inl (by decide)) _ ?_
    have := r9 (lgP P) hl
    rw [z2] at this
    rw [a7]
    exact this
  · rw [a2 q hq]
    exact tkV_ok hq (hok q hq)
/-- accounts behind a tick -/
theorem tk19 {V : Nat → Nat → Int32} {w res : Int32} {n r : Nat} (hr : r < n) : tkV V w res n r 19 = V r 19 ∨ tkV V w res n r 19 = V r 19 + 1 := by
  rw [tkV_in hr]
  have e : lookR (fun q => V q 9) (rowsF (fun _ => mvR) V 0 n) w res n r 19 = V r 19 := by
    rw [lookR_keep _ _ _ _ _ _ _ (by omega), rowsF_in hr]
    exact upd_n (by decide)
  unfold endR
  split
  · right
    rw [upd_s, e]
  · left
    split
    · exact e
    · rw [upd_n (by decide)]
      exact e
theorem AZ_tick {n : Nat} {P P' : PV} (h : AZ n P) (hp : PT n P P') (ht : (P.1 1).toInt < 20000) : AZ n P' := by
  obtain ⟨⟨h1, h2⟩, h3⟩ := h
  have e1 : (1 : Int32).toInt = 1 := rfl
  have et : (P'.1 1).toInt = (P.1 1).toInt + 1 := by rw [hp.2.2.1, i_add (by omega) (by omega)]; rfl
  refine ⟨by omega, fun q hq => ?_⟩
  obtain ⟨h4, h5⟩ := h3 q hq
  rw [hp.1 q hq]
  rcases tk19 (V := rowP P) (w := P.1 3) (res := P.1 2) hq with e | e
  · rw [e]; omega
  · rw [e, i_add (by omega) (by omega), e1]; omega
theorem AZ_ticks {n : Nat} : ∀ (m : Nat) (P P' : PV) (d : Int32), AZ n P → PTs n m P P' d → (P.1 1).toInt + m ≤ 20000 → AZ n P' := by
  intro m
  induction m with
  | zero =>
    intro P P' d h hp ht
    rw [hp.1]
    exact h
  | succ m ih =>
    intro P P' d h hp ht
    obtain ⟨P1, d1, h1, h2, h3⟩ := hp
    have et : (P1.1 1).toInt = (P.1 1).toInt + 1 := by
      have e1 : (1 : Int32).toInt = 1 := rfl
      have := h.1
      rw [h1.2.2.1, i_add (by omega) (by omega)]
      rfl
    exact ih P1 P' d1 (AZ_tick h h1 (by omega)) h2 (by omega)
theorem c_tickLoop (T : TS) {n X : Nat} (hn8 : n ≤ 8) (hX : X ≤ 200) : ∀ (m k fuel : Nat) (P : PV) (a : Int32), P.1 0 = nI n → k + m = X → m < fuel → ∃ P' d, f_X3_tick_55 fuel (HT (uP T 0 P)) 0 (nI X) a (nI k) = some (.inr (a + d, HT (uP T 0 P'))) ∧ PTs n m P P' d := by
  intro m
  induction m with
  | zero =>
    intro k fuel P a h0 hk hf
    obtain ⟨fuel, rfl⟩ : ∃ f, fuel = f + 1 := ⟨fuel - 1, by omega⟩
    refine ⟨P, 0, ?_, rfl, rfl⟩
    show b_X3_tick_55 _ _ _ _ _ _ = _
    unfold b_X3_tick_55
    rw [if_pos (nI_le (by omega) (by omega)), Int32.add_zero]
  | succ m ih =>
    intro k fuel P a h0 hk hf
    obtain ⟨fuel, rfl⟩ : ∃ f, fuel = f + 1 := ⟨fuel - 1, by omega⟩
    obtain ⟨P1, g1, g2⟩ := p_tick (G := gT T) (b := 1) (by decide) hn8 h0
    obtain ⟨P2, d, k1, k2⟩ := ih (k + 1) fuel P1 (a + eN n P) (by rw [g2.2.1]; exact h0) (by omega) (by omega)
    refine ⟨P2, eN n P + d, ?_, P1, d, g2, k2, rfl⟩
    show b_X3_tick_55 _ _ _ _ _ _ = _
    unfold b_X3_tick_55
    rw [if_neg (nI_ge (by omega) (by omega))]
    rw [hp0, hp0] at g1
    simp only [t_R0, Option.bind_some, q_v1, g1, nI_1]
    rw [k1, Int32.add_assoc]
theorem z_tickLoop {n X : Nat} (hX : X ≤ 200) : ∀ (m k fuel : Nat) (P P' : PV) (d : Int32) (M : MV), RZ n P (M.2 1) → PTs n m P P' d → k + m = X → m < fuel → ∃ M', f_X4_tick_58 fuel (hm H 133 M) 133 (nI X) (nI k) = some (M.1.1 6 + d, hm H 133 M') ∧ RZ n P' (M'.2 1) ∧ (∀ k, k ≠ 6 → k ≠ 7 → M'.1.1 k = M.1.1 k) ∧ M'.1.2 = M.1.2 ∧ (∀ k, k ≠ 1 → k ≠ 8 → M'.2 k = M.2 k) := by
  intro m
  induction m with
  | zero =>
    intro k fuel P P' d M h hp hk hf
    obtain ⟨fuel, rfl⟩ : ∃ f, fuel = f + 1 := ⟨fuel - 1, by omega⟩
    obtain ⟨rfl, rfl⟩ := hp
    refine ⟨M, ?_, h, fun _ _ _ => rfl, rfl, fun _ _ _ => rfl⟩
    show b_X4_tick_58 _ _ _ _ _ = _
    unfold b_X4_tick_58
    rw [if_pos (nI_le (by omega) (by omega)), m_I6 (by decide), Int32.add_zero]
    rfl
  | succ m ih =>
    intro k fuel P P' d M h hp hk hf
    obtain ⟨fuel, rfl⟩ : ∃ f, fuel = f + 1 := ⟨fuel - 1, by omega⟩
    obtain ⟨P1, d1, h1, h2, rfl⟩ := hp
    obtain ⟨M1, g1, g2, g3, g4, g5, g6, g7⟩ := z_tick (H := H) h h1
    obtain ⟨M2, k1, k2, k3, k4, k5⟩ := ih (k + 1) fuel P1 P' d1 M1 g2 h2 (by omega) (by omega)
    refine ⟨M2, ?_, k2, fun k a b => (k3 k a b).trans (g5 k a b), k4.trans g6, fun k a b => (k5 k a b).trans (g7 k a b)⟩
    show b_X4_tick_58 _ _ _ _ _ = _
    unfold b_X4_tick_58
    rw [if_neg (nI_ge (by omega) (by omega)), m_v (by decide), g1, Option.bind_some, nI_1, k1, g3, Int32.add_assoc]
variable {T : TS}
theorem OK_do1 {n s : Nat} (h : INV T n s) {cl : Option (Int32 × MH)} {rf : MH → Option (Int32 × MH)} {a : Int32} {P' : PV} (e1 : cl = some (0, HT (uO (uP (svT T s) 0 P') (vp_updL T.2.2.2 0 (Int32.toInt64 a))))) (e2 : ∀ G, ∃ M' m, rf (hm G 133 T.2.2.1) = some (a, hm G 133 M') ∧ M'.1.1 0 = 0 ∧ RZ m P' (M'.2 1) ∧ AZ m P' ∧ M'.2 3 = svM (T.2.2.1.2 3) (T.2.2.1.2 1) s ∧ M'.1.1 2 = nI (min (s + 1) 6) ∧ M'.1.1 4 = T.2.2.1.1.1 4 ∧ M'.2 5 = T.2.2.1.2 5) : OKc T cl (fun h => vcall h 4 133 (rf h)) := by
  obtain ⟨M', m, r1, r2, r3, r4, r5, r6, r7, r8⟩ := e2 (gT (uO (uP (svT T s) 0 P') (vp_updL T.2.2.2 0 (Int32.toInt64 a))))
  refine ⟨_, 0, e1, uM (uO (uP (svT T s) 0 P') (vp_updL T.2.2.2 0 (Int32.toInt64 a))) M', a, ?_, r2, fun _ => ?_, m, _, INV_cmd h _ r3 r4 r5 r6 r7 r8⟩
  · show vcall (HT _) 4 133 (rf (HT _)) = _
    rw [t_vm, ← hm_T, HT_m (uO (uP (svT T s) 0 P') (vp_updL T.2.2.2 0 (Int32.toInt64 a)))]
    exact r1
  · simp [uM, uO, vp_updL]
theorem op_tick {n s : Nat} (h : INV T n s) (x : Int32) : OKc T (f_L_tick (HT T) 0 x 140) (fun h => vcall h 4 133 (f_X4_tick h 133 x)) := by
  have h' := h
  obtain ⟨hs, hS, hM, hσ, hz, ha, hv, hbf⟩ := h'
  have hz' := hz
  obtain ⟨hn8, h0, z0, z1, z2, hrow, hw, hl, hwn, hok⟩ := hz'
  unfold f_L_tick
  rw [t_v3]
  have e35 : ∀ (G : Nat → MC) (c : Int32), b_X4_tick_35 (hm G 133 T.2.2.1) 133 x 133 c = if c ≤ 0 then (f_X4_save (hm G 133 (mS T.2.2.1 0 c)) 133).bind (fun h5 => (hP h5 4 133 6 (.int (0 : Int32))).bind fun h6 => f_X4_tick_58 FU h6 133 x 0) else some (0, hm G 133 (mS T.2.2.1 0 c)) := by
    intro G c
    simp only [b_X4_tick_35, m_P0 (show 133 ≤ 134 by decide), m_I0 (show 133 ≤ 134 by decide), m_v (show 133 ≤ 134 by decide), Option.bind_some, mS_0]
  by_cases hx : x < 1 ∨ 200 < x
  · have e1 : f_X3_tick (HT T) 0 x = some (.inl (0, HT T)) := by
      unfold f_X3_tick b_X3_tick_12
      by_cases h1 : x < 1
      · rw [if_pos h1]
      · rw [if_neg h1, if_neg]
        rcases hx with hx | hx
        · exact absurd hx h1
        · rw [Int32.not_le]; exact hx
    rw [e1]
    refine OK_no h (c := 1) (by decide) rfl (fun G => ?_)
    simp only [f_X4_tick, z_within, Option.bind_some, e35]
    rw [if_pos hx, if_pos rfl, if_neg (by decide)]
  · have hx1 : ¬ x < 1 := fun hh => hx (Or.inl hh)
    have hx2 : x ≤ 200 := by rw [← Int32.not_lt]; exact fun hh => hx (Or.inr hh)
    have hx0 : ¬ x < 0 := by
      rw [Int32.lt_iff_toInt_lt] at hx1 ⊢
      have e1 : (1 : Int32).toInt = 1 := rfl
      have e0 : (0 : Int32).toInt = 0 := rfl
      omega
    obtain ⟨X, hX31, rfl⟩ := nI_of hx0
    have hX : X ≤ 200 := by
      rw [show (200 : Int32) = nI 200 from rfl, nI_leI hX31 (by decide)] at hx2
      exact hx2
    by_cases ht : (T.1.2.2 0).1 1 + nI X ≤ 20000
    · have htI : ((T.1.2.2 0).1 1).toInt + X ≤ 20000 := by
        have := ha.1
        rw [Int32.le_iff_toInt_le, i_add (by rw [nI_toInt hX31]; omega) (by rw [nI_toInt hX31]; omega), nI_toInt hX31] at ht
        have e2 : (20000 : Int32).toInt = 20000 := rfl
        omega
      obtain ⟨P', d, c1, c2⟩ := c_tickLoop (svT T s) hn8 hX X 0 FU (T.1.2.2 0) 0 h0 (by omega) (by rw [FU_eq]; omega)
      have hself : uP (svT T s) 0 (T.1.2.2 0) = svT T s := by
        have := uP_self (svT T s) 0
        rw [sv_pl T hσ] at this
        exact this
      rw [hself, Int32.zero_add] at c1
      have e1 : f_X3_tick (HT T) 0 (nI X) = some (.inr (d, HT (uP (svT T s) 0 P'))) := by
        unfold f_X3_tick
        rw [if_neg hx1, if_pos hx2]
        simp only [t_R0, q_I1, t_v3, Option.bind_some]
        rw [if_pos ht, t_save T hs hS hσ, Option.bind_some]
        exact c1
      rw [e1]
      refine OK_do1 h (a := d) (P' := P') ?_ (fun G => ?_)
      · simp only [Option.bind_some, Sum.elim_inr, t_sL]
        rfl
      · obtain ⟨M', k1, k2, k3, k4, k5⟩ := z_tickLoop (H := G) hX X 0 FU (T.1.2.2 0) P' d (mS (sM T.2.2.1 s) 6 0) hz c2 (by omega) (by rw [FU_eq]; omega)
        refine ⟨M', n, ?_, k3 0 (by decide) (by decide), k2, AZ_ticks X _ _ d ha c2 htI, k5 3 (by decide) (by decide), k3 2 (by decide) (by decide), k3 4 (by decide) (by decide), k5 5 (by decide) (by decide)⟩
        simp only [f_X4_tick, z_within, Option.bind_some, e35, m_R1 (show 133 ≤ 134 by decide), m_a1 (show 133 ≤ 134 by decide), b228_2]
        rw [if_neg hx, if_neg n10, z2, if_pos ht, if_pos (by decide), z_saveT (by decide) hs hM, Option.bind_some, m_P6 (by decide), Option.bind_some]
        rw [show (mS (sM T.2.2.1 s) 6 0).1.1 6 = 0 from rfl, Int32.zero_add] at k1
        exact k1
    · have e1 : f_X3_tick (HT T) 0 (nI X) = some (.inl (1, HT T)) := by
        unfold f_X3_tick
        rw [if_neg hx1, if_pos hx2]
        simp only [t_R0, q_I1, t_v3, Option.bind_some]
        rw [if_neg ht]
      rw [e1]
      refine OK_no h (c := 2) (by decide) rfl (fun G => ?_)
      simp only [f_X4_tick, z_within, Option.bind_some, e35, m_R1 (show 133 ≤ 134 by decide), m_a1 (show 133 ≤ 134 by decide), b228_2]
      rw [if_neg hx, if_neg n10, z2, if_neg ht, if_neg (by decide)]
