/-! load, on both sides -/
variable {T : TS}
theorem x_self (R : RS) : uR (uP T 1 (T.1.2.2 1)) R = uR T R := by
  rw [uP_self]
theorem z_load23 {G : Nat → MC} {M : MV} (x : Int32) : b_X4_load_23 (hm G 133 M) 133 x = if x = 0 then b_X4_load_45 (hm G 133 M) 133 133 1 else (f_X4_isEarlier (hm G 133 M) 133).bind (fun v17 => if v17 = 0 then b_X4_load_45 (hm G 133 M) 133 133 2 else b_X4_load_45 (hm G 133 M) 133 133 0) := by
  unfold b_X4_load_23
  rw [m_v b133]
/-- how the model ends, by what it read -/
theorem z_load {G : Nat → MC} {M M1 : MV} {v l : Nat} {en : Bool} (hl : l ≤ 60) (hv : v ≤ l) (h4 : M1.1.1 4 = nI l) (e1 : f_X4_readText (hm G 133 M) 133 = some (nI v, hm G 133 M1)) (e2 : v = l → f_X4_isRailOver (hm G 133 M1) 133 = some (if en = true then 1 else 0)) : f_X4_load (hm G 133 M) 133 = if v = l ∧ en = true then (f_X4_isEarlier (hm G 133 M1) 133).bind (fun v17 => if v17 = 0 then b_X4_load_45 (hm G 133 M1) 133 133 2 else b_X4_load_45 (hm G 133 M1) 133 133 0) else b_X4_load_45 (hm G 133 M1) 133 133 1 := by
  unfold f_X4_load b_X4_load_22
  rw [m_v b133, e1, obs, m_I4 b133, obs, h4, z_load23, if_pos rfl, z_load23, if_neg n10]
  by_cases hvl : v = l
  · rw [if_pos (by rw [hvl]), m_v b133, e2 hvl, obs, ite01]
    cases en
    · rw [if_neg (by decide), if_neg (fun hh => absurd hh.2 (by decide))]
    · rw [if_pos rfl, if_pos ⟨hvl, rfl⟩]
  · rw [if_neg (by rw [nI_eq (by omega) (by omega)]; exact hvl), if_neg (fun hh => hvl hh.1)]
theorem tk_hi {c : Int32} {R R' : RS} (hp : R.1 ≤ 3) (h : tkS c R = some R') {i : Nat} (hi : 3 ≤ i) : R'.2.1 i = R.2.1 i := by
  unfold tkS dgS at h
  split at h
  · split at h
    · split at h
      · cases h
        rfl
      · cases h
    · split at h
      · split at h
        · cases h
          rfl
        · cases h
      · split at h
        · split at h
          · cases h
            exact if_neg (by omega)
          · cases h
        · cases h
  · split at h
    · split at h
      · cases h
      · cases h
        rfl
    · next h3 =>
      split at h
      · cases h
      · cases h
        exact upd_n (by omega)
theorem rd_hi {B : Nat → Int32} : ∀ (m k : Nat) (R : RS) (L : List (Nat → Int32)) (i : Nat), R.1 ≤ 3 → 3 ≤ i → (rdL B m k R L).2.1.2.1 i = R.2.1 i := by
  intro m
  induction m with
  | zero => exact fun k R L i _ _ => rfl
  | succ m ih =>
    intro k R L i hp hi
    unfold rdL
    cases h : tkS (B k) R with
    | none => rfl
    | some R' =>
      show (rdL B m (k + 1) R' _).2.1.2.1 i = _
      rw [ih (k + 1) R' _ i (tk_le hp h) hi, tk_hi hp h hi]
/-- refused, when only the readers moved -/
theorem OK_noR {n s : Nat} (h : INV T n s) {cl : Option (Int32 × MH)} {rf : MH → Option (Int32 × MH)} {c : Int32} (hc : ¬ c = 0) (R : RS) (P : PV) (e1 : cl = some (c, HT (uR (uP T 1 P) R))) (e2 : ∀ G, ∃ M1, MRd T.2.2.1 M1 ∧ rf (hm G 133 T.2.2.1) = some (0, hm G 133 (mS M1 0 c))) : OKc T cl (fun h => vcall h 4 133 (rf h)) := by
  obtain ⟨M1, m1, m2⟩ := e2 (gT (uR (uP T 1 P) R))
  have hI : INV (uM (uR (uP T 1 P) R) (mS M1 0 c)) n s := INV_read h R P T.2.2.2 (c := c) (MRd_0 m1 c)
  refine ⟨_, c, e1, uM (uR (uP T 1 P) R) (mS M1 0 c), 0, ?_, rfl, fun hh => absurd hh hc, n, s, hI⟩
  show vcall (HT _) 4 133 (rf (HT _)) = _
  rw [t_vm, ← hm_T, HT_m (uR (uP T 1 P) R)]
  exact m2
theorem c_addText {l n : Nat} (hl : l ≤ 60) (h5 : T.1.1 5 = nI l) (hn8 : n ≤ 8) (h0 : (T.1.2.2 0).1 0 = nI n) {R1 : RS} (hg : R0 R1.2.1 = R0 T.2.1.2) (hr : (rdL T.2.1.1 l 0 (R0 T.2.1.2) []).1 = l) : ∃ R2, f_X3_addTextToFuture (HT (uR T R1)) 0 = some (if (adL (rst T.2.1.1 l 0 (R0 T.2.1.2)) (cpP (T.1.2.2 0) (T.1.2.2 1)) n).1 = true then 1 else 0, HT (uR (uP T 1 (adL (rst T.2.1.1 l 0 (R0 T.2.1.2)) (cpP (T.1.2.2 0) (T.1.2.2 1)) n).2) R2)) := by
  obtain ⟨R2, e⟩ := c_addLoop (T := T) hl h5 l 0 FU (R0 T.2.1.2) [] (cpP (T.1.2.2 0) (T.1.2.2 1)) n (Nat.zero_le 3) (by omega) hr h0 hn8 (by rw [FU_eq]; omega)
  refine ⟨R2, ?_⟩
  have ec : f_X1_copyFrom (HT (uR T R1)) 17 1 = some (HT (uR (uP T 1 (cpP (T.1.2.2 0) (T.1.2.2 1))) R1)) := f_copy (uR T R1)
  unfold f_X3_addTextToFuture
  rw [t_R1, obs, t_R0, obs, f_v1, ec, obs, t_R6, obs, r_v2, c_beginR, obs, hg]
  exact e
theorem op_load {n s : Nat} (h : INV T n s) : OKc T (f_L_load (HT T) 0 140) (fun h => vcall h 4 133 (f_X4_load h 133)) := by
  have h' := h
  obtain ⟨hs, hS, hM, hσ, hz, ha, hv, hbf⟩ := h'
  obtain ⟨l, b1, b2, b3, b4⟩ := hbf
  have hn8 := hz.1
  have hl1 := (rd_le (B := T.2.1.1) l 0 (R0 T.2.1.2) []).2.1
  have hp3 := (rd_le (B := T.2.1.1) l 0 (R0 T.2.1.2) []).2.2 (Nat.zero_le 3)
  have hhi := fun i (hi : 3 ≤ i) => rd_hi (B := T.2.1.1) l 0 (R0 T.2.1.2) [] i (Nat.zero_le 3) hi
  obtain ⟨v, hvd⟩ : ∃ v, v = (rdL T.2.1.1 l 0 (R0 T.2.1.2) []).1 := ⟨_, rfl⟩
  obtain ⟨R1, hR1⟩ : ∃ R1, R1 = (rdL T.2.1.1 l 0 (R0 T.2.1.2) []).2.1 := ⟨_, rfl⟩
  obtain ⟨L1, hL1⟩ : ∃ L1, L1 = (rdL T.2.1.1 l 0 (R0 T.2.1.2) []).2.2 := ⟨_, rfl⟩
  have hcr := c_read (T := T) b1 b2
  rw [← hvd, ← hR1] at hcr
  rw [← hvd, Nat.zero_add] at hl1
  rw [← hR1] at hp3 hhi
  have hg : R0 R1.2.1 = R0 T.2.1.2 := by
    unfold R0
    congr 2
    funext i
    by_cases hi : i < 3
    · rw [if_pos hi, if_pos hi]
    · rw [if_neg hi, if_neg hi, hhi i (by omega)]
      exact if_neg hi
  unfold f_L_load
  rw [t_v3]
  have hrd : ∀ G : Nat → MC, ∃ M1, f_X4_readText (hm G 133 T.2.2.1) 133 = some (nI v, hm G 133 M1) ∧ MRd T.2.2.1 M1 ∧ (v = l → RR l R1 L1 M1 ∧ ∀ e, e ∈ L1 → okE e) := by
    intro G
    have t := z_read (G := G) (B := T.2.1.1) b1 T.2.1.2 (M := T.2.2.1) b3 (fun i hi => (b4 i hi).symm)
    rw [← hvd, ← hR1, ← hL1] at t
    exact t
  have h40 : ∀ M1, MRd T.2.2.1 M1 → M1.1.1 4 = nI l := fun M1 q => (q.1 4 (by decide) (by decide) (by decide) (by decide)).trans b3
  by_cases hcomp : v = l ∧ enS R1 = true
  · obtain ⟨hvl, hen⟩ := hcomp
    obtain ⟨LL, hLL⟩ : ∃ LL, LL = rst T.2.1.1 l 0 (R0 T.2.1.2) := ⟨_, rfl⟩
    have hLL2 : L1 ++ [roR R1] = LL := by
      have t := rst_rd (B := T.2.1.1) l 0 (R0 T.2.1.2) [] (by rw [← hvd, hvl]; omega)
      rw [← hR1, ← hL1, ← hLL] at t
      exact t
    have hlen : LL.length = L1.length + 1 := by rw [← hLL2]; simp
    have hz' : ∀ z, RZ n (T.1.2.2 0) z → RZ n (cpP (T.1.2.2 0) (T.1.2.2 1)) z := fun z hh => cp_RZ _ hh
    have ha' := cp_AZ (T.1.2.2 1) hn8 ha
    obtain ⟨R2, hadd⟩ := c_addText (T := T) b1 b2 hn8 hz.2.1 hg (by rw [← hvd, hvl])
    rw [← hLL] at hadd
    obtain ⟨Pf, hPf⟩ : ∃ Pf, Pf = (adL LL (cpP (T.1.2.2 0) (T.1.2.2 1)) n).2 := ⟨_, rfl⟩
    rw [← hPf] at hadd
    have hearl : ∀ G : Nat → MC, ∀ M1, MRd T.2.2.1 M1 → RR l R1 L1 M1 → f_X4_isEarlier (hm G 133 M1) 133 = some (if (adL LL (cpP (T.1.2.2 0) (T.1.2.2 1)) n).1 = true then 1 else 0) := by
      intro G M1 q hrr
      obtain ⟨hi, e10, e13, e12, hd, hr, dg, e11, d3, d0, dk, hbd⟩ := hrr
      refine z_earlier hn8 (by rw [q.2.2 1 (by decide)]; exact hz.2.2.1) e13 (by omega) (L := LL) ?_ hlen _
      rw [← hLL2]
      exact hd_snoc L1 0 hd (fun i hi => by rw [Nat.zero_add]; exact hr i hi)
    by_cases hA : (adL LL (cpP (T.1.2.2 0) (T.1.2.2 1)) n).1 = true
    · rw [if_pos hA] at hadd
      have hlen8 : n + LL.length ≤ 8 := by
        rw [ad_ea LL _ n hn8, Bool.and_eq_true, decide_eq_true_eq] at hA
        exact hA.1
      have hsv := t_save (uR (uP T 1 Pf) R2) hs hS hσ
      have hσX : σOK (uR (uP T 1 Pf) R2).1.2.1 := hσ
      have hcopy : f_X1_copyFrom (HT (svT (uR (uP T 1 Pf) R2) s)) 1 17 = some (HT (uP (svT (uR (uP T 1 Pf) R2) s) 0 (cpP Pf (T.1.2.2 0)))) := by
        have t := t_copy (svT (uR (uP T 1 Pf) R2) s) (i := 1) (j := 0) (by decide) (by decide) (by decide)
        rw [sv_pl1 hσX, sv_pl _ hσX, x_pl] at t
        exact t
      -- the model, from the heap that the class leaves
      obtain ⟨M1, m1, m2, m3⟩ := hrd (gT (uO (uS (uP (svT (uR (uP T 1 Pf) R2) s) 0 (cpP Pf (T.1.2.2 0))) 5 0) (vp_updL T.2.2.2 0 (Int32.toInt64 (nI (n + LL.length))))))
      obtain ⟨hrr, hokL⟩ := m3 hvl
      have hrr' := hrr
      obtain ⟨hi, e10, e13, e12, hd, hr, dg, e11, d3, d0, dk, hbd⟩ := hrr'
      have hdLL : hdF (M1.2 14) 0 LL := by
        rw [← hLL2]
        exact hd_snoc L1 0 hd (fun i hi => by rw [Nat.zero_add]; exact hr i hi)
      have hokLL : ∀ e, e ∈ LL → okE e := by
        intro e he
        rw [← hLL2, List.mem_append, List.mem_singleton] at he
        rcases he with he | he
        · exact hokL e he
        · rw [he]
          exact okE_of hi hen
      have hz1 : RZ n (cpP (T.1.2.2 0) (T.1.2.2 1)) ((sM M1 s).2 1) := by
        rw [sM_1, m2.2.2 1 (by decide)]
        exact hz' _ hz
      obtain ⟨z', k1, k2, k3⟩ := z_bringLoop2 (G := gT (uO (uS (uP (svT (uR (uP T 1 Pf) R2) s) 0 (cpP Pf (T.1.2.2 0))) 5 0) (vp_updL T.2.2.2 0 (Int32.toInt64 (nI (n + LL.length)))))) (c := L1.length) (by omega) LL 0 FU n (sM M1 s) (cpP (T.1.2.2 0) (T.1.2.2 1)) hdLL (by omega) e13 hn8 hokLL hz1 ha' hA (by rw [FU_eq]; omega)
      rw [← hPf] at k2 k3
      have hPf0 : Pf.1 0 = nI (n + LL.length) := k2.2.1
      have hM1 : M1.1.1 2 = nI s := (m2.1 2 (by decide) (by decide) (by decide) (by decide)).trans hM
      have e1 : f_X3_load (HT T) 0 = some (.inr (nI (n + LL.length), HT (uS (uP (svT (uR (uP T 1 Pf) R2) s) 0 (cpP Pf (T.1.2.2 0))) 5 0))) := by
        unfold f_X3_load
        rw [t_v3, hcr, obs, t_I5, obs, show (uR T R1).1.1 5 = nI l from b2, if_neg (by rw [hvl]; exact nI_nlt (Nat.le_refl _) (by omega)), t_R6, obs, r_v2, c_end hp3, if_pos hen, obs, if_neg n10, t_v3, hadd, obs, if_neg n10, t_v3, hsv, obs, t_R0, obs, t_R1, obs, q_v1, hcopy, obs, t_P5, obs, t_R0, obs, q_I0, obs]
        rw [show (uS (uP (svT (uR (uP T 1 Pf) R2) s) 0 (cpP Pf (T.1.2.2 0))) 5 0).1.2.2 0 = cpP Pf (T.1.2.2 0) from uP_at (svT (uR (uP T 1 Pf) R2) s) 0 _, show (cpP Pf (T.1.2.2 0)).1 0 = Pf.1 0 from rfl, hPf0]
      have hI : INV (uM (uR (uP T 1 Pf) R2) (mS M1 0 0)) n s := INV_read h R2 Pf T.2.2.2 (c := 0) (MRd_0 m2 0)
      have hC := INV_cmd hI (P' := cpP Pf (T.1.2.2 0)) (M' := wZ (sM M1 s) z') (vp_updL T.2.2.2 0 (Int32.toInt64 (nI (n + LL.length)))) (cp_RZ _ k2) (cp_AZ _ hlen8 k3) rfl rfl rfl rfl
      have hF := INV_clear hC
      refine ⟨uO (uS (uP (svT (uR (uP T 1 Pf) R2) s) 0 (cpP Pf (T.1.2.2 0))) 5 0) (vp_updL T.2.2.2 0 (Int32.toInt64 (nI (n + LL.length)))), 0, ?_, uM (uO (uS (uP (svT (uR (uP T 1 Pf) R2) s) 0 (cpP Pf (T.1.2.2 0))) 5 0) (vp_updL T.2.2.2 0 (Int32.toInt64 (nI (n + LL.length))))) (mS (wZ (sM M1 s) z') 4 0), nI (n + LL.length), ?_, rfl, fun _ => ?_, n + LL.length, min (s + 1) 6, hF⟩
      · rw [e1, obs, Sum.elim_inr, t_sL, obs]
        rfl
      · show vcall (HT _) 4 133 (f_X4_load (HT _) 133) = _
        rw [t_vm, ← hm_T, HT_m (uO (uS (uP (svT (uR (uP T 1 Pf) R2) s) 0 (cpP Pf (T.1.2.2 0))) 5 0) (vp_updL T.2.2.2 0 (Int32.toInt64 (nI (n + LL.length)))))]
        show f_X4_load (hm _ 133 T.2.2.1) 133 = _
        rw [z_load b1 hl1 (h40 M1 m2) m1 (fun _ => z_railOver hrr b1), if_pos ⟨hvl, hen⟩, hearl _ M1 m2 hrr, if_pos hA, obs, if_neg n10, z_load45, if_pos (by decide), z_saveT b133 hs hM1, obs]
        exact k1
      · simp [uM, uO, vp_updL]
    · rw [if_neg hA] at hadd
      have e1 : f_X3_load (HT T) 0 = some (.inl (1, HT (uR (uP T 1 Pf) R2))) := by
        unfold f_X3_load
        rw [t_v3, hcr, obs, t_I5, obs, show (uR T R1).1.1 5 = nI l from b2, if_neg (by rw [hvl]; exact nI_nlt (Nat.le_refl _) (by omega)), t_R6, obs, r_v2, c_end hp3, if_pos hen, obs, if_neg n10, t_v3, hadd, obs, if_pos rfl]
      rw [e1]
      refine OK_noR h (c := 2) (by decide) R2 Pf rfl (fun G => ?_)
      obtain ⟨M1, m1, m2, m3⟩ := hrd G
      obtain ⟨hrr, hokL⟩ := m3 hvl
      refine ⟨M1, m2, ?_⟩
      rw [z_load b1 hl1 (h40 M1 m2) m1 (fun _ => z_railOver hrr b1), if_pos ⟨hvl, hen⟩, hearl _ M1 m2 hrr, if_neg hA, obs, if_pos rfl, z_load45, if_neg (by decide)]
  · have e1 : f_X3_load (HT T) 0 = some (.inl (0, HT (uR (uP T 1 (T.1.2.2 1)) R1))) := by
      unfold f_X3_load b_X3_load_21
      rw [t_v3, hcr, obs, t_I5, obs, show (uR T R1).1.1 5 = nI l from b2, x_self]
      by_cases hvl : v = l
      · rw [if_neg (by rw [hvl]; exact nI_nlt (Nat.le_refl _) (by omega)), t_R6, obs, r_v2, c_end hp3, if_neg (fun hh => hcomp ⟨hvl, hh⟩), obs, if_pos rfl]
      · rw [if_pos (nI_lt (by omega) (by omega))]
    rw [e1]
    refine OK_noR h (c := 1) (by decide) R1 (T.1.2.2 1) rfl (fun G => ?_)
    obtain ⟨M1, m1, m2, m3⟩ := hrd G
    refine ⟨M1, m2, ?_⟩
    rw [z_load (en := enS R1) b1 hl1 (h40 M1 m2) m1 (fun hh => z_railOver (m3 hh).1 b1), if_neg hcomp, z_load45, if_neg (by decide)]
