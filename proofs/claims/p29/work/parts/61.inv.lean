/-! the plant now, within the whole; what holds between two commands -/
variable (T : TS)
theorem HT0 : HT T = hp (gT T) 1 (T.1.2.2 0) := HT_p T (j := 0) (by decide)
theorem hp0 (Q : PV) : hp (gT T) 1 Q = HT (uP T 0 Q) := hp_T T (j := 0) (by decide) Q
theorem q_v1 {α : Type} {o : Option α} : vcall (HT T) 1 1 o = o := t_aO T (j := 0) (by decide)
theorem q_v0 {α : Type} {o : Option α} : vcall (HT T) 0 12 o = o := t_lv T (j := 0) (by decide)
theorem q_lI : hI (HT T) 0 12 1 = some ((T.1.2.2 0).1 4) := t_lI T (j := 0) (by decide)
theorem q_lR : hR (HT T) 0 12 0 = some 13 := t_lR T (j := 0) (by decide)
theorem q_lP (x : Int32) : hP (HT T) 0 12 1 (.int x) = some (HT (uP T 0 (wS (T.1.2.2 0) 4 x))) := t_lP T (j := 0) (by decide) x
theorem q_I0 : hI (HT T) 1 1 0 = some ((T.1.2.2 0).1 0) := t_pI0 T (j := 0) (by decide)
theorem q_P0 (x : Int32) : hP (HT T) 1 1 0 (.int x) = some (HT (uP T 0 (wS (T.1.2.2 0) 0 x))) := t_pP0 T (j := 0) (by decide) x
theorem q_I1 : hI (HT T) 1 1 1 = some ((T.1.2.2 0).1 1) := t_pI1 T (j := 0) (by decide)
theorem q_P1 (x : Int32) : hP (HT T) 1 1 1 (.int x) = some (HT (uP T 0 (wS (T.1.2.2 0) 1 x))) := t_pP1 T (j := 0) (by decide) x
theorem q_I2 : hI (HT T) 1 1 2 = some ((T.1.2.2 0).1 2) := t_pI2 T (j := 0) (by decide)
theorem q_P2 (x : Int32) : hP (HT T) 1 1 2 (.int x) = some (HT (uP T 0 (wS (T.1.2.2 0) 2 x))) := t_pP2 T (j := 0) (by decide) x
theorem q_I3 : hI (HT T) 1 1 3 = some ((T.1.2.2 0).1 3) := t_pI3 T (j := 0) (by decide)
theorem q_P3 (x : Int32) : hP (HT T) 1 1 3 (.int x) = some (HT (uP T 0 (wS (T.1.2.2 0) 3 x))) := t_pP3 T (j := 0) (by decide) x
theorem q_R4 : hR (HT T) 1 1 4 = some 2 := t_pR4 T (j := 0) (by decide)
theorem q_R5 : hR (HT T) 1 1 5 = some 3 := t_pR5 T (j := 0) (by decide)
theorem q_R6 : hR (HT T) 1 1 6 = some 4 := t_pR6 T (j := 0) (by decide)
theorem q_R7 : hR (HT T) 1 1 7 = some 5 := t_pR7 T (j := 0) (by decide)
theorem q_R8 : hR (HT T) 1 1 8 = some 6 := t_pR8 T (j := 0) (by decide)
theorem q_R9 : hR (HT T) 1 1 9 = some 7 := t_pR9 T (j := 0) (by decide)
theorem q_R10 : hR (HT T) 1 1 10 = some 8 := t_pR10 T (j := 0) (by decide)
theorem q_R11 : hR (HT T) 1 1 11 = some 9 := t_pR11 T (j := 0) (by decide)
theorem q_R12 : hR (HT T) 1 1 12 = some 10 := t_pR12 T (j := 0) (by decide)
theorem q_R13 : hR (HT T) 1 1 13 = some 11 := t_pR13 T (j := 0) (by decide)
theorem q_R14 : hR (HT T) 1 1 14 = some 12 := t_pR14 T (j := 0) (by decide)
theorem q_R15 : hR (HT T) 1 1 15 = some 14 := t_pR15 T (j := 0) (by decide)
theorem q_R16 : hR (HT T) 1 1 16 = some 15 := t_pR16 T (j := 0) (by decide)
theorem q_R17 : hR (HT T) 1 1 17 = some 16 := t_pR17 T (j := 0) (by decide)
theorem q_a4 {j : Int32} : aI (HT T) 2 j = bd 56 j ((T.1.2.2 0).2 4) := by
  rw [HT0]
  exact p_a4 (b := 1) (by decide)
theorem q_s4 {j x : Int32} : sI (HT T) 2 j x = bd 56 j (fun i => HT (uP T 0 (wA (T.1.2.2 0) 4 i x))) := by
  have h := p_s4 (G := gT T) (b := 1) (P := T.1.2.2 0) (j := j) (x := x) (by decide)
  rw [← HT0] at h
  refine h.trans ?_
  refine congrArg (bd 56 j) (funext fun i => hp0 T _)
theorem q_a5 {j : Int32} : aI (HT T) 3 j = bd 8 j ((T.1.2.2 0).2 5) := by
  rw [HT0]
  exact p_a5 (b := 1) (by decide)
theorem q_s5 {j x : Int32} : sI (HT T) 3 j x = bd 8 j (fun i => HT (uP T 0 (wA (T.1.2.2 0) 5 i x))) := by
  have h := p_s5 (G := gT T) (b := 1) (P := T.1.2.2 0) (j := j) (x := x) (by decide)
  rw [← HT0] at h
  refine h.trans ?_
  refine congrArg (bd 8 j) (funext fun i => hp0 T _)
theorem q_a6 {j : Int32} : aI (HT T) 4 j = bd 8 j ((T.1.2.2 0).2 6) := by
  rw [HT0]
  exact p_a6 (b := 1) (by decide)
theorem q_s6 {j x : Int32} : sI (HT T) 4 j x = bd 8 j (fun i => HT (uP T 0 (wA (T.1.2.2 0) 6 i x))) := by
  have h := p_s6 (G := gT T) (b := 1) (P := T.1.2.2 0) (j := j) (x := x) (by decide)
  rw [← HT0] at h
  refine h.trans ?_
  refine congrArg (bd 8 j) (funext fun i => hp0 T _)
theorem q_a7 {j : Int32} : aI (HT T) 5 j = bd 8 j ((T.1.2.2 0).2 7) := by
  rw [HT0]
  exact p_a7 (b := 1) (by decide)
theorem q_s7 {j x : Int32} : sI (HT T) 5 j x = bd 8 j (fun i => HT (uP T 0 (wA (T.1.2.2 0) 7 i x))) := by
  have h := p_s7 (G := gT T) (b := 1) (P := T.1.2.2 0) (j := j) (x := x) (by decide)
  rw [← HT0] at h
  refine h.trans ?_
  refine congrArg (bd 8 j) (funext fun i => hp0 T _)
theorem q_a8 {j : Int32} : aI (HT T) 6 j = bd 8 j ((T.1.2.2 0).2 8) := by
  rw [HT0]
  exact p_a8 (b := 1) (by decide)
theorem q_s8 {j x : Int32} : sI (HT T) 6 j x = bd 8 j (fun i => HT (uP T 0 (wA (T.1.2.2 0) 8 i x))) := by
  have h := p_s8 (G := gT T) (b := 1) (P := T.1.2.2 0) (j := j) (x := x) (by decide)
  rw [← HT0] at h
  refine h.trans ?_
  refine congrArg (bd 8 j) (funext fun i => hp0 T _)
theorem q_a9 {j : Int32} : aI (HT T) 7 j = bd 8 j ((T.1.2.2 0).2 9) := by
  rw [HT0]
  exact p_a9 (b := 1) (by decide)
theorem q_s9 {j x : Int32} : sI (HT T) 7 j x = bd 8 j (fun i => HT (uP T 0 (wA (T.1.2.2 0) 9 i x))) := by
  have h := p_s9 (G := gT T) (b := 1) (P := T.1.2.2 0) (j := j) (x := x) (by decide)
  rw [← HT0] at h
  refine h.trans ?_
  refine congrArg (bd 8 j) (funext fun i => hp0 T _)
theorem q_a10 {j : Int32} : aI (HT T) 8 j = bd 8 j ((T.1.2.2 0).2 10) := by
  rw [HT0]
  exact p_a10 (b := 1) (by decide)
theorem q_s10 {j x : Int32} : sI (HT T) 8 j x = bd 8 j (fun i => HT (uP T 0 (wA (T.1.2.2 0) 10 i x))) := by
  have h := p_s10 (G := gT T) (b := 1) (P := T.1.2.2 0) (j := j) (x := x) (by decide)
  rw [← HT0] at h
  refine h.trans ?_
  refine congrArg (bd 8 j) (funext fun i => hp0 T _)
theorem q_a11 {j : Int32} : aI (HT T) 9 j = bd 8 j ((T.1.2.2 0).2 11) := by
  rw [HT0]
  exact p_a11 (b := 1) (by decide)
theorem q_s11 {j x : Int32} : sI (HT T) 9 j x = bd 8 j (fun i => HT (uP T 0 (wA (T.1.2.2 0) 11 i x))) := by
  have h := p_s11 (G := gT T) (b := 1) (P := T.1.2.2 0) (j := j) (x := x) (by decide)
  rw [← HT0] at h
  refine h.trans ?_
  refine congrArg (bd 8 j) (funext fun i => hp0 T _)
theorem q_a12 {j : Int32} : aI (HT T) 10 j = bd 8 j ((T.1.2.2 0).2 12) := by
  rw [HT0]
  exact p_a12 (b := 1) (by decide)
theorem q_s12 {j x : Int32} : sI (HT T) 10 j x = bd 8 j (fun i => HT (uP T 0 (wA (T.1.2.2 0) 12 i x))) := by
  have h := p_s12 (G := gT T) (b := 1) (P := T.1.2.2 0) (j := j) (x := x) (by decide)
  rw [← HT0] at h
  refine h.trans ?_
  refine congrArg (bd 8 j) (funext fun i => hp0 T _)
theorem q_a13 {j : Int32} : aI (HT T) 11 j = bd 32 j ((T.1.2.2 0).2 13) := by
  rw [HT0]
  exact p_a13 (b := 1) (by decide)
theorem q_s13 {j x : Int32} : sI (HT T) 11 j x = bd 32 j (fun i => HT (uP T 0 (wA (T.1.2.2 0) 13 i x))) := by
  have h := p_s13 (G := gT T) (b := 1) (P := T.1.2.2 0) (j := j) (x := x) (by decide)
  rw [← HT0] at h
  refine h.trans ?_
  refine congrArg (bd 32 j) (funext fun i => hp0 T _)
theorem q_a15 {j : Int32} : aI (HT T) 14 j = bd 8 j ((T.1.2.2 0).2 15) := by
  rw [HT0]
  exact p_a15 (b := 1) (by decide)
theorem q_s15 {j x : Int32} : sI (HT T) 14 j x = bd 8 j (fun i => HT (uP T 0 (wA (T.1.2.2 0) 15 i x))) := by
  have h := p_s15 (G := gT T) (b := 1) (P := T.1.2.2 0) (j := j) (x := x) (by decide)
  rw [← HT0] at h
  refine h.trans ?_
  refine congrArg (bd 8 j) (funext fun i => hp0 T _)
theorem q_a16 {j : Int32} : aI (HT T) 15 j = bd 8 j ((T.1.2.2 0).2 16) := by
  rw [HT0]
  exact p_a16 (b := 1) (by decide)
theorem q_s16 {j x : Int32} : sI (HT T) 15 j x = bd 8 j (fun i => HT (uP T 0 (wA (T.1.2.2 0) 16 i x))) := by
  have h := p_s16 (G := gT T) (b := 1) (P := T.1.2.2 0) (j := j) (x := x) (by decide)
  rw [← HT0] at h
  refine h.trans ?_
  refine congrArg (bd 8 j) (funext fun i => hp0 T _)
theorem q_a17 {j : Int32} : aI (HT T) 16 j = bd 8 j ((T.1.2.2 0).2 17) := by
  rw [HT0]
  exact p_a17 (b := 1) (by decide)
theorem q_s17 {j x : Int32} : sI (HT T) 16 j x = bd 8 j (fun i => HT (uP T 0 (wA (T.1.2.2 0) 17 i x))) := by
  have h := p_s17 (G := gT T) (b := 1) (P := T.1.2.2 0) (j := j) (x := x) (by decide)
  rw [← HT0] at h
  refine h.trans ?_
  refine congrArg (bd 8 j) (funext fun i => hp0 T _)
theorem q_a14 {j : Int32} : aI (HT T) 13 j = bd 64 j ((T.1.2.2 0).2 14) := by
  rw [HT0]
  exact p_a14 (b := 1) (by decide)
theorem q_s14 {j x : Int32} : sI (HT T) 13 j x = bd 64 j (fun i => HT (uP T 0 (wA (T.1.2.2 0) 14 i x))) := by
  have h := p_s14 (G := gT T) (b := 1) (P := T.1.2.2 0) (j := j) (x := x) (by decide)
  rw [← HT0] at h
  refine h.trans ?_
  refine congrArg (bd 64 j) (funext fun i => hp0 T _)
theorem uP_pl (Q : PV) : (uP T 0 Q).1.2.2 0 = Q := uP_at T 0 Q
theorem sv_pl {s : Nat} (hσ : σOK T.1.2.1) : (svT T s).1.2.2 0 = T.1.2.2 0 := by
  have h := (rotM_ok hσ s).1 (min s 5) (by omega)
  show (if 0 = rotM T.1.2.1 s (min s 5) then _ else _) = _
  rw [if_neg (by omega)]
  rfl
