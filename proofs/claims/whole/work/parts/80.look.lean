/-! looking ahead: aside and back, the class's other plant -/
def keF (z a : Nat → Int32) (k : Nat) : Nat → Int32 := fun x => if x < k then z x else a x
theorem ke_step (z a : Nat → Int32) (k : Nat) : upd (keF z a k) k (z k) = keF z a (k + 1) := by
  funext x
  unfold upd keF
  by_cases h : x = k
  · subst h
    rw [if_pos rfl, if_pos (by omega)]
  · rw [if_neg h]
    by_cases h2 : x < k
    · rw [if_pos h2, if_pos (by omega)]
    · rw [if_neg h2, if_neg (by omega)]
theorem ke_0 (z a : Nat → Int32) : keF z a 0 = a := by
  funext x
  unfold keF
  rw [if_neg (by omega)]
def w9 (M : MV) (f : Nat → Int32) : MV := (M.1, fun j => if j = 9 then f else M.2 j)
theorem mA_w9 (M : MV) (i : Nat) (f : Nat → Int32) (x : Int32) : mA (w9 M f) 9 i x = w9 M (upd f i x) := by
  unfold mA w9
  congr 1
  funext j
  by_cases h : j = 9
  · simp [h]
  · simp [h]
theorem w9_self (M : MV) : w9 M (M.2 9) = M := by
  unfold w9
  have : (fun j => if j = 9 then M.2 9 else M.2 j) = M.2 := by
    funext j
    by_cases h : j = 9
    · simp [h]
    · simp [h]
  rw [this]
variable {G : Nat → MC} {b : Nat}
theorem z_keepLoop (hb : b ≤ 134) {M : MV} : ∀ (m k fuel : Nat), k + m = 228 → m < fuel → f_X4_keepAside_2 fuel (hm G b (w9 M (keF (M.2 1) (M.2 9) k))) b (nI k) = some (hm G b (w9 M (keF (M.2 1) (M.2 9) 228))) := by
  intro m
  induction m with
  | zero =>
    intro k fuel hk hf
    obtain ⟨fuel, rfl⟩ : ∃ f, fuel = f + 1 := ⟨fuel - 1, by omega⟩
    obtain rfl : k = 228 := by omega
    show b_X4_keepAside_2 _ _ _ _ = _
    unfold b_X4_keepAside_2
    rw [if_pos (by rw [show (228 : Int32) = nI 228 from rfl]; exact nI_le (by omega) (by omega))]
  | succ m ih =>
    intro k fuel hk hf
    obtain ⟨fuel, rfl⟩ : ∃ f, fuel = f + 1 := ⟨fuel - 1, by omega⟩
    show b_X4_keepAside_2 _ _ _ _ = _
    unfold b_X4_keepAside_2
    rw [if_neg (by rw [show (228 : Int32) = nI 228 from rfl]; exact nI_ge (by omega) (by omega)), m_R9 hb, obs, m_R1 hb, obs, m_a1 hb, bd_nI (by omega) (by decide), obs, m_s9 hb, bd_nI (by omega) (by decide), obs, mA_w9, nI_1]
    rw [show (w9 M (keF (M.2 1) (M.2 9) k)).2 1 k = M.2 1 k from rfl, ke_step]
    exact ih (k + 1) fuel (by omega) (by omega)
theorem z_keep (hb : b ≤ 134) (M : MV) : f_X4_keepAside (hm G b M) b = some (hm G b (w9 M (keF (M.2 1) (M.2 9) 228))) := by
  have t := z_keepLoop (G := G) hb (M := M) 228 0 FU (by omega) (by rw [FU_eq]; omega)
  rw [ke_0, w9_self] at t
  exact t
theorem z_takeLoop (hb : b ≤ 134) {M : MV} {z : Nat → Int32} : ∀ (m k fuel : Nat), k + m = 228 → m < fuel → f_X4_takeBack_2 fuel (hm G b (wZ M (keF (M.2 9) z k))) b (nI k) = some (hm G b (wZ M (keF (M.2 9) z 228))) := by
  intro m
  induction m with
  | zero =>
    intro k fuel hk hf
    obtain ⟨fuel, rfl⟩ : ∃ f, fuel = f + 1 := ⟨fuel - 1, by omega⟩
    obtain rfl : k = 228 := by omega
    show b_X4_takeBack_2 _ _ _ _ = _
    unfold b_X4_takeBack_2
    rw [if_pos (by rw [show (228 : Int32) = nI 228 from rfl]; exact nI_le (by omega) (by omega))]
  | succ m ih =>
    intro k fuel hk hf
    obtain ⟨fuel, rfl⟩ : ∃ f, fuel = f + 1 := ⟨fuel - 1, by omega⟩
    show b_X4_takeBack_2 _ _ _ _ = _
    unfold b_X4_takeBack_2
    rw [if_neg (by rw [show (228 : Int32) = nI 228 from rfl]; exact nI_ge (by omega) (by omega)), m_R1 hb, obs, m_R9 hb, obs, m_a9 hb, bd_nI (by omega) (by decide), obs, m_s1 hb, bd_nI (by omega) (by decide), obs, mA_wZ, wZ_wZ, wZ_z, nI_1]
    rw [show (wZ M (keF (M.2 9) z k)).2 9 k = M.2 9 k from rfl, ke_step]
    exact ih (k + 1) fuel (by omega) (by omega)
theorem z_take (hb : b ≤ 134) (M : MV) : f_X4_takeBack (hm G b M) b = some (hm G b (wZ M (keF (M.2 9) (M.2 1) 228))) := by
  have t := z_takeLoop (G := G) hb (M := M) (z := M.2 1) 228 0 FU (by omega) (by rw [FU_eq]; omega)
  rw [ke_0, wZ_self] at t
  exact t
/-- the model behind a look: its numbers as they were -/
def MLk (M M' : MV) : Prop := (∀ k, k ≠ 6 → k ≠ 7 → M'.1.1 k = M.1.1 k) ∧ M'.1.2 = M.1.2 ∧ (∀ k, k < 228 → M'.2 1 k = M.2 1 k) ∧ ∀ k, k ≠ 1 → k ≠ 8 → k ≠ 9 → M'.2 k = M.2 k
theorem MLk_refl (M : MV) : MLk M M := ⟨fun _ _ _ => rfl, rfl, fun _ _ => rfl, fun _ _ _ _ => rfl⟩
theorem MLk_trans {A B C : MV} (h1 : MLk A B) (h2 : MLk B C) : MLk A C := ⟨fun k a c => (h2.1 k a c).trans (h1.1 k a c), h2.2.1.trans h1.2.1, fun k a => (h2.2.2.1 k a).trans (h1.2.2.1 k a), fun k a c d => (h2.2.2.2 k a c d).trans (h1.2.2.2 k a c d)⟩
/-- a look at the model: kept aside, gone on, taken back -/
theorem MLk_back {M M1 : MV} (h1 : ∀ k, k ≠ 6 → k ≠ 7 → M1.1.1 k = M.1.1 k) (h2 : M1.1.2 = M.1.2) (h3 : ∀ k, k < 228 → M1.2 9 k = M.2 1 k) (h4 : ∀ k, k ≠ 1 → k ≠ 8 → k ≠ 9 → M1.2 k = M.2 k) : MLk M (wZ M1 (keF (M1.2 9) (M1.2 1) 228)) := by
  refine ⟨h1, h2, fun k hk => ?_, fun k a c d => by rw [wZ_n _ _ a]; exact h4 k a c d⟩
  rw [wZ_z]
  unfold keF
  rw [if_pos hk]
  exact h3 k hk
/-- what the model keeps while ticks pass -/
def MK (M M' : MV) : Prop := (∀ k, k ≠ 6 → k ≠ 7 → M'.1.1 k = M.1.1 k) ∧ M'.1.2 = M.1.2 ∧ ∀ k, k ≠ 1 → k ≠ 8 → M'.2 k = M.2 k
theorem MK_refl (M : MV) : MK M M := ⟨fun _ _ _ => rfl, rfl, fun _ _ _ => rfl⟩
theorem MK_trans {A B C : MV} (h1 : MK A B) (h2 : MK B C) : MK A C := ⟨fun k a c => (h2.1 k a c).trans (h1.1 k a c), h2.2.1.trans h1.2.1, fun k a c => (h2.2.2 k a c).trans (h1.2.2 k a c)⟩
theorem MK_back {M M1 : MV} (h : MK (w9 M (keF (M.2 1) (M.2 9) 228)) M1) : MLk M (wZ M1 (keF (M1.2 9) (M1.2 1) 228)) := by
  obtain ⟨h1, h2, h3⟩ := h
  refine MLk_back h1 h2 (fun k hk => ?_) (fun k a c d => ?_)
  · rw [h3 9 (by decide) (by decide)]
    show keF (M.2 1) (M.2 9) 228 k = _
    unfold keF
    rw [if_pos hk]
  · rw [h3 k a c]
    exact if_neg d
variable {T : TS}
theorem BFR_look {T : TS} (h : BFR T) (Q : PV) (o : Nat → Int64) {M' : MV} (h4 : M'.1.1 4 = T.2.2.1.1.1 4) (h5 : M'.2 5 = T.2.2.1.2 5) : BFR (uM (uO (uP T 1 Q) o) M') := by
  obtain ⟨k, b1, b2, b3, b4⟩ := h
  exact ⟨k, b1, b2, h4.trans b3, fun i hi => by rw [show (uM (uO (uP T 1 Q) o) M').2.2.1.2 5 = M'.2 5 from rfl, h5]; exact b4 i hi⟩
theorem INV_look {n s : Nat} (h : INV T n s) (Q : PV) (o : Nat → Int64) {c : Int32} {M' : MV} (hq : MLk (mS T.2.2.1 0 c) M') : INV (uM (uO (uP T 1 Q) o) M') n s := by
  obtain ⟨hs, hS, hM, hσ, hz, ha, hv, hbf⟩ := h
  obtain ⟨q1, q2, q3, q4⟩ := hq
  refine ⟨hs, hS, (q1 2 (by decide) (by decide)).trans hM, hσ, ?_, ha, ?_, BFR_look hbf Q o (q1 4 (by decide) (by decide)) (q4 5 (by decide) (by decide) (by decide))⟩
  · exact RZ_congr q3 hz
  · intro i hi
    obtain ⟨m, t1, t2⟩ := hv i hi
    have hr := hσ.1 i (by omega)
    have e : (uM (uO (uP T 1 Q) o) M').1.2.2 ((uM (uO (uP T 1 Q) o) M').1.2.1 i) = T.1.2.2 (T.1.2.1 i) := by
      show (if T.1.2.1 i = 1 then Q else T.1.2.2 (T.1.2.1 i)) = T.1.2.2 (T.1.2.1 i)
      rw [if_neg (by omega)]
    rw [e]
    refine ⟨m, ?_, t2⟩
    rw [show (uM (uO (uP T 1 Q) o) M').2.2.1.2 3 = M'.2 3 from rfl, q4 3 (by decide) (by decide) (by decide)]
    exact t1
theorem OK_look {n s : Nat} (h : INV T n s) {cl : Option (Int32 × MH)} {rf : MH → Option (Int32 × MH)} {a : Int32} (Q : PV) (e1 : cl = some (0, HT (uO (uP T 1 Q) (vp_updL T.2.2.2 0 (Int32.toInt64 a))))) (e2 : ∀ G, ∃ M', rf (hm G 133 T.2.2.1) = some (a, hm G 133 M') ∧ MLk (mS T.2.2.1 0 0) M') : OKc T cl (fun h => vcall h 4 133 (rf h)) := by
  obtain ⟨M', r1, r2⟩ := e2 (gT (uO (uP T 1 Q) (vp_updL T.2.2.2 0 (Int32.toInt64 a))))
  refine ⟨_, 0, e1, uM (uO (uP T 1 Q) (vp_updL T.2.2.2 0 (Int32.toInt64 a))) M', a, ?_, r2.1 0 (by decide) (by decide), fun _ => ?_, n, s, INV_look h Q _ r2⟩
  · show vcall (HT _) 4 133 (rf (HT _)) = _
    rw [t_vm, ← hm_T, HT_m (uO (uP T 1 Q) (vp_updL T.2.2.2 0 (Int32.toInt64 a)))]
    exact r1
  · simp [uM, uO, uP, vp_updL]
/-- a call without a refusal: both answers are one -/
def OKv {α : Type} (T : TS) (cl : Option (α × MH)) (rf : MH → Option (α × MH)) : Prop :=
  ∃ T1 a, cl = some (a, HT T1) ∧ ∃ T2, rf (HT T1) = some (a, HT T2) ∧ ∃ n s, INV T2 n s
theorem uO_self (T : TS) : uO T T.2.2.2 = T := rfl
theorem OKv_look {α : Type} {n s : Nat} (h : INV T n s) {cl : Option (α × MH)} {rf : MH → Option (α × MH)} {a : α} (Q : PV) (e1 : cl = some (a, HT (uP T 1 Q))) (e2 : ∀ G, ∃ M', rf (hm G 133 T.2.2.1) = some (a, hm G 133 M') ∧ MLk (mS T.2.2.1 0 0) M') : OKv T cl (fun h => vcall h 4 133 (rf h)) := by
  obtain ⟨M', r1, r2⟩ := e2 (gT (uP T 1 Q))
  refine ⟨_, a, e1, uM (uP T 1 Q) M', ?_, n, s, INV_look h Q T.2.2.2 r2⟩
  show vcall (HT _) 4 133 (rf (HT _)) = _
  rw [t_vm, ← hm_T, HT_m (uP T 1 Q)]
  exact r1
