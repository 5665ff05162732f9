/-! walks: the machine does what the plain functions say: written by program -/
set_option maxHeartbeats 4000000 in
set_option maxRecDepth 100000 in
theorem t_X0_init {g : Gx} {h : MH} {x0} {out : MH} (hf : f_X0_init h x0 = some out) : MM g yX0_init cX0_init 1 none 1 60 1 64 true true [.ref x0] h none out := by
  unfold f_X0_init at hf
  refine MM_of (L := [some (.ref x0)]) (by decide) (Nat.le_of_ble_eq_true rfl) rfl (fun K hK O Z hn => ?_)
  refine E_aload_n (pc := 0) O 0 dX0_init_0 rfl rfl ?_
  refine E_objInit (pc := 1) O (aw1 32 (by decide +kernel) rfl) (aw1 19 (by decide +kernel) rfl) (aw1 20 (by decide +kernel) rfl) (Nat.le_of_ble_eq_true rfl) (Nat.le_of_ble_eq_true rfl) dX0_init_1 ?_
  refine E_aload_n (pc := 4) O 0 dX0_init_4 rfl rfl ?_
  refine E_bipush (pc := 5) O (64 : Int32) dX0_init_5 (by decide) ?_
  refine E_newaI (pc := 7) O (aw1 41 (by decide +kernel) rfl) dX0_init_7 (by decide) (by decide) (Nat.le_of_ble_eq_true rfl) hf ⟨(Nat.le_of_ble_eq_true rfl), (Nat.le_of_ble_eq_true rfl)⟩ (fun h1 hf => ?_)
  show EE K (true, 1, 64) _ _ _ _
  refine E_putF (pc := 9) O FF_RailSequence_Log_9 hn rfl rfl dX0_init_9 hf (fun h2 hf => ?_)
  exact E_vret (pc := 12) O Z hf ⟨(Nat.le_of_ble_eq_true rfl), (Nat.le_of_ble_eq_true rfl)⟩ dX0_init_12
set_option maxHeartbeats 4000000 in
set_option maxRecDepth 100000 in
theorem t_X0_copyFrom {g : Gx} {fr : Bool} {h : MH} {x0 x1} {out : MH} (hf : f_X0_copyFrom h x0 x1 = some out) : MM g yX0_copyFrom cX0_copyFrom 2 none 1 60 0 0 fr fr [.ref x0, .ref x1] h none out := by
  unfold f_X0_copyFrom at hf
  refine MM_of (L := [some (.ref x0), some (.ref x1)]) (by decide) (Nat.le_of_ble_eq_true rfl) rfl (fun K hK O Z hn => ?_)
  refine E_aload_n (pc := 0) O 0 dX0_copyFrom_0 rfl rfl ?_
  refine E_aload_n (pc := 1) O 1 dX0_copyFrom_1 rfl rfl ?_
  refine E_getI (pc := 2) O FL_RailSequence_Log_13 dX0_copyFrom_2 hf (fun v1 hf => ?_)
  refine E_put (pc := 5) O FN_RailSequence_Log_13 rfl rfl dX0_copyFrom_5 hf (fun h2 hf => ?_)
  refine E_aload_n (pc := 8) O 1 dX0_copyFrom_8 rfl rfl ?_
  refine E_getR (pc := 9) O FL_RailSequence_Log_9 dX0_copyFrom_9 hf (fun v3 hf => ?_)
  refine E_iconst (pc := 12) O (0 : Int32) dX0_copyFrom_12 (by decide) ?_
  refine E_aload_n (pc := 13) O 0 dX0_copyFrom_13 rfl rfl ?_
  refine E_getR (pc := 14) O FL_RailSequence_Log_9 dX0_copyFrom_14 hf (fun v4 hf => ?_)
  refine E_iconst (pc := 17) O (0 : Int32) dX0_copyFrom_17 (by decide) ?_
  refine E_bipush (pc := 18) O (64 : Int32) dX0_copyFrom_18 (by decide) ?_
  refine E_acopy (pc := 20) O (aw2 1 (by decide +kernel) rfl) (aw1 236 (by decide +kernel) rfl) (aw1 235 (by decide +kernel) rfl) (aw1 10 (by decide +kernel) rfl) (Nat.le_of_ble_eq_true rfl) (Nat.le_of_ble_eq_true rfl) dX0_copyFrom_20 hf (fun h5 hf => ?_)
  exact E_vret (pc := 23) O Z hf ⟨(Nat.le_of_ble_eq_true rfl), (Nat.le_of_ble_eq_true rfl)⟩ dX0_copyFrom_23
set_option maxHeartbeats 4000000 in
set_option maxRecDepth 100000 in
theorem t_X0_enter {g : Gx} {fr : Bool} {h : MH} {x0 x1 x2 x3 x4} {out : MH} (hf : f_X0_enter h x0 x1 x2 x3 x4 = some out) : MM g yX0_enter cX0_enter 5 none 1 60 0 0 fr fr [.ref x0, .int x1, .int x2, .int x3, .int x4] h none out := by
  unfold f_X0_enter at hf
  refine MM_of (L := [some (.ref x0), some (.int x1), some (.int x2), some (.int x3), some (.int x4)]) (by decide) (Nat.le_of_ble_eq_true rfl) rfl (fun K hK O Z hn => ?_)
  refine E_aload_n (pc := 0) O 0 dX0_enter_0 rfl rfl ?_
  refine E_getR (pc := 1) O FL_RailSequence_Log_9 dX0_enter_1 hf (fun v1 hf => ?_)
  refine E_iconst (pc := 4) O (0 : Int32) dX0_enter_4 (by decide) ?_
  refine E_aload_n (pc := 5) O 0 dX0_enter_5 rfl rfl ?_
  refine E_getR (pc := 6) O FL_RailSequence_Log_9 dX0_enter_6 hf (fun v2 hf => ?_)
  refine E_iconst (pc := 9) O (4 : Int32) dX0_enter_9 (by decide) ?_
  refine E_bipush (pc := 10) O (60 : Int32) dX0_enter_10 (by decide) ?_
  refine E_acopy (pc := 12) O (aw2 1 (by decide +kernel) rfl) (aw1 236 (by decide +kernel) rfl) (aw1 235 (by decide +kernel) rfl) (aw1 10 (by decide +kernel) rfl) (Nat.le_of_ble_eq_true rfl) (Nat.le_of_ble_eq_true rfl) dX0_enter_12 hf (fun h3 hf => ?_)
  refine E_aload_n (pc := 15) O 0 dX0_enter_15 rfl rfl ?_
  refine E_getR (pc := 16) O FL_RailSequence_Log_9 dX0_enter_16 hf (fun v4 hf => ?_)
  refine E_iconst (pc := 19) O (0 : Int32) dX0_enter_19 (by decide) ?_
  refine E_iload_n (pc := 20) O 1 dX0_enter_20 rfl rfl ?_
  refine E_iastore (pc := 21) O dX0_enter_21 hf (fun h5 hf => ?_)
  refine E_aload_n (pc := 22) O 0 dX0_enter_22 rfl rfl ?_
  refine E_getR (pc := 23) O FL_RailSequence_Log_9 dX0_enter_23 hf (fun v6 hf => ?_)
  refine E_iconst (pc := 26) O (1 : Int32) dX0_enter_26 (by decide) ?_
  refine E_iload_n (pc := 27) O 2 dX0_enter_27 rfl rfl ?_
  refine E_iastore (pc := 28) O dX0_enter_28 hf (fun h7 hf => ?_)
  refine E_aload_n (pc := 29) O 0 dX0_enter_29 rfl rfl ?_
  refine E_getR (pc := 30) O FL_RailSequence_Log_9 dX0_enter_30 hf (fun v8 hf => ?_)
  refine E_iconst (pc := 33) O (2 : Int32) dX0_enter_33 (by decide) ?_
  refine E_iload_n (pc := 34) O 3 dX0_enter_34 rfl rfl ?_
  refine E_iastore (pc := 35) O dX0_enter_35 hf (fun h9 hf => ?_)
  refine E_aload_n (pc := 36) O 0 dX0_enter_36 rfl rfl ?_
  refine E_getR (pc := 37) O FL_RailSequence_Log_9 dX0_enter_37 hf (fun v10 hf => ?_)
  refine E_iconst (pc := 40) O (3 : Int32) dX0_enter_40 (by decide) ?_
  refine E_iload (pc := 41) O dX0_enter_41 rfl ?_
  refine E_iastore (pc := 43) O dX0_enter_43 hf (fun h11 hf => ?_)
  refine E_aload_n (pc := 44) O 0 dX0_enter_44 rfl rfl ?_
  refine E_aload_n (pc := 45) O 0 dX0_enter_45 rfl rfl ?_
  refine E_getI (pc := 46) O FL_RailSequence_Log_13 dX0_enter_46 hf (fun v12 hf => ?_)
  refine E_iconst (pc := 49) O (1 : Int32) dX0_enter_49 (by decide) ?_
  refine E_iadd (pc := 50) O dX0_enter_50 ?_
  refine E_bipush (pc := 51) O (16 : Int32) dX0_enter_51 (by decide) ?_
  refine E_min (pc := 53) O (aw2 80 (by decide +kernel) rfl) (aw2 19 (by decide +kernel) rfl) (aw1 11 (by decide +kernel) rfl) (aw2 20 (by decide +kernel) rfl) (Nat.le_of_ble_eq_true rfl) (Nat.le_of_ble_eq_true rfl) ⟨(Nat.le_of_ble_eq_true rfl), (Nat.le_of_ble_eq_true rfl)⟩ dX0_enter_53 ?_
  refine E_put (pc := 56) O FN_RailSequence_Log_13 rfl rfl dX0_enter_56 hf (fun h13 hf => ?_)
  exact E_vret (pc := 59) O Z hf ⟨(Nat.le_of_ble_eq_true rfl), (Nat.le_of_ble_eq_true rfl)⟩ dX0_enter_59
set_option maxHeartbeats 4000000 in
set_option maxRecDepth 100000 in
theorem t_X0_numberAt {g : Gx} {fr : Bool} {h : MH} {x0 x1 x2} {out : Int32} (hf : f_X0_numberAt h x0 x1 x2 = some out) : MM g yX0_numberAt cX0_numberAt 3 (some .int) 0 0 0 0 fr fr [.ref x0, .int x1, .int x2] h (some (.int out)) h := by
  unfold f_X0_numberAt at hf
  refine MM_of (L := [some (.ref x0), some (.int x1), some (.int x2)]) (by decide) (Nat.le_of_ble_eq_true rfl) rfl (fun K hK O Z hn => ?_)
  refine E_aload_n (pc := 0) O 0 dX0_numberAt_0 rfl rfl ?_
  refine E_getR (pc := 1) O FL_RailSequence_Log_9 dX0_numberAt_1 hf (fun v1 hf => ?_)
  refine E_iload_n (pc := 4) O 1 dX0_numberAt_4 rfl rfl ?_
  refine E_iconst (pc := 5) O (4 : Int32) dX0_numberAt_5 (by decide) ?_
  refine E_imul (pc := 6) O dX0_numberAt_6 ?_
  refine E_iload_n (pc := 7) O 2 dX0_numberAt_7 rfl rfl ?_
  refine E_iadd (pc := 8) O dX0_numberAt_8 ?_
  refine E_iaload (pc := 9) O dX0_numberAt_9 hf (fun v2 hf => ?_)
  exact E_iretP (pc := 10) O Z hf ⟨(Nat.le_of_ble_eq_true rfl), (Nat.le_of_ble_eq_true rfl)⟩ dX0_numberAt_10
set_option maxHeartbeats 4000000 in
set_option maxRecDepth 100000 in
theorem t_b_X0_removeRail_43 {K : Cx} {fr : Bool} {out : (Int32 × MH)} (O : Ok K yX0_removeRail.cls cX0_removeRail 4 (rmm 1 60 0 0)) (Z : Out K (some .int) fr (some (.int out.1)) out.2) (rec4 : MH → Nat → Int32 → Int32 → Int32 → Option (Int32 × MH)) (hr4 : ∀ (h : MH) (x0 : Nat) (x1 : Int32) (x2 : Int32) (x3 : Int32), rec4 h x0 x1 x2 x3 = some out → EE K (fr, 0, 0) 4 [some (.ref x0), some (.int x1), some (.int x2), some (.int x3)] [] h) (h : MH) (x0 : Nat) (x1 : Int32) (x2 : Int32) (x3 : Int32) (hf : b_X0_removeRail_43 rec4 h x0 x1 x2 x3 = some out) : EE K (fr, 0, 0) 43 [some (.ref x0), some (.int x1), some (.int x2), some (.int x3)] [] h := by
  unfold b_X0_removeRail_43 at hf
  refine E_iinc (pc := 43) O (1 : Int32) [some (.ref x0), some (.int x1), some (.int x2), some (.int (x3 + (1 : Int32)))] dX0_removeRail_43 rfl (by decide) rfl (by decide) rfl ?_
  refine E_goto (pc := 46) O 4 dX0_removeRail_46 (by decide) ?_
  exact hr4 h x0 x1 x2 (x3 + (1 : Int32)) hf
set_option maxHeartbeats 4000000 in
set_option maxRecDepth 100000 in
theorem t_b_X0_removeRail_4 {K : Cx} {fr : Bool} {out : (Int32 × MH)} (O : Ok K yX0_removeRail.cls cX0_removeRail 4 (rmm 1 60 0 0)) (Z : Out K (some .int) fr (some (.int out.1)) out.2) (rec4 : MH → Nat → Int32 → Int32 → Int32 → Option (Int32 × MH)) (hr4 : ∀ (h : MH) (x0 : Nat) (x1 : Int32) (x2 : Int32) (x3 : Int32), rec4 h x0 x1 x2 x3 = some out → EE K (fr, 0, 0) 4 [some (.ref x0), some (.int x1), some (.int x2), some (.int x3)] [] h) (h : MH) (x0 : Nat) (x1 : Int32) (x2 : Int32) (x3 : Int32) (hf : b_X0_removeRail_4 rec4 h x0 x1 x2 x3 = some out) : EE K (fr, 0, 0) 4 [some (.ref x0), some (.int x1), some (.int x2), some (.int x3)] [] h := by
  unfold b_X0_removeRail_4 at hf
  refine E_iload_n (pc := 4) O 3 dX0_removeRail_4 rfl rfl ?_
  refine E_aload_n (pc := 5) O 0 dX0_removeRail_5 rfl rfl ?_
  refine E_getI (pc := 6) O FL_RailSequence_Log_13 dX0_removeRail_6 hf (fun v1 hf => ?_)
  refine E_icmp_ge (pc := 9) O 49 dX0_removeRail_9 (by decide) hf (fun hf => ?_) (fun hf => ?_)
  · refine E_aload_n (pc := 49) O 0 dX0_removeRail_49 rfl rfl ?_
    refine E_getI (pc := 50) O FL_RailSequence_Log_13 dX0_removeRail_50 hf (fun v2 hf => ?_)
    refine E_iload_n (pc := 53) O 2 dX0_removeRail_53 rfl rfl ?_
    refine E_isub (pc := 54) O dX0_removeRail_54 ?_
    obtain ⟨v3, ev3, hf⟩ := ob hf
    have ev3 := os ev3
    rw [ev3]
    refine E_istore_n (pc := 55) O 3 [some (.ref x0), some (.int x1), some (.int x2), some (.int v3)] dX0_removeRail_55 rfl (by decide) rfl rfl ?_
    refine E_aload_n (pc := 56) O 0 dX0_removeRail_56 rfl rfl ?_
    refine E_iload_n (pc := 57) O 2 dX0_removeRail_57 rfl rfl ?_
    refine E_put (pc := 58) O FN_RailSequence_Log_13 rfl rfl dX0_removeRail_58 hf (fun h4 hf => ?_)
    refine E_iload_n (pc := 61) O 3 dX0_removeRail_61 rfl rfl ?_
    exact E_iret (pc := 62) O Z hf ⟨(Nat.le_of_ble_eq_true rfl), (Nat.le_of_ble_eq_true rfl)⟩ dX0_removeRail_62
  · refine E_aload_n (pc := 12) O 0 dX0_removeRail_12 rfl rfl ?_
    refine E_iload_n (pc := 13) O 3 dX0_removeRail_13 rfl rfl ?_
    refine E_iconst (pc := 14) O (1 : Int32) dX0_removeRail_14 (by decide) ?_
    refine E_callV_iP (pc := 15) (S := []) O [.int x3, .int (1 : Int32)] CV_RailSequence_Log_29 rfl (fun r e => t_X0_numberAt e) dX0_removeRail_15 hf rfl ⟨(Nat.le_of_ble_eq_true rfl), (Nat.le_of_ble_eq_true rfl)⟩ ⟨(Nat.le_of_ble_eq_true rfl), (Nat.le_of_ble_eq_true rfl)⟩ (Nat.le_of_ble_eq_true rfl) (fun v5 hf => ?_)
    refine E_iload_n (pc := 18) O 1 dX0_removeRail_18 rfl rfl ?_
    refine E_icmp_eq (pc := 19) O 43 dX0_removeRail_19 (by decide) hf (fun hf => ?_) (fun hf => ?_)
    · exact t_b_X0_removeRail_43 O Z _ hr4 h x0 x1 x2 x3 hf
    · refine E_aload_n (pc := 22) O 0 dX0_removeRail_22 rfl rfl ?_
      refine E_getR (pc := 23) O FL_RailSequence_Log_9 dX0_removeRail_23 hf (fun v6 hf => ?_)
      refine E_iload_n (pc := 26) O 3 dX0_removeRail_26 rfl rfl ?_
      refine E_iconst (pc := 27) O (4 : Int32) dX0_removeRail_27 (by decide) ?_
      refine E_imul (pc := 28) O dX0_removeRail_28 ?_
      refine E_aload_n (pc := 29) O 0 dX0_removeRail_29 rfl rfl ?_
      refine E_getR (pc := 30) O FL_RailSequence_Log_9 dX0_removeRail_30 hf (fun v7 hf => ?_)
      refine E_iload_n (pc := 33) O 2 dX0_removeRail_33 rfl rfl ?_
      refine E_iconst (pc := 34) O (4 : Int32) dX0_removeRail_34 (by decide) ?_
      refine E_imul (pc := 35) O dX0_removeRail_35 ?_
      refine E_iconst (pc := 36) O (4 : Int32) dX0_removeRail_36 (by decide) ?_
      refine E_acopy (pc := 37) O (aw2 1 (by decide +kernel) rfl) (aw1 236 (by decide +kernel) rfl) (aw1 235 (by decide +kernel) rfl) (aw1 10 (by decide +kernel) rfl) (Nat.le_of_ble_eq_true rfl) (Nat.le_of_ble_eq_true rfl) dX0_removeRail_37 hf (fun h8 hf => ?_)
      refine E_iinc (pc := 40) O (1 : Int32) [some (.ref x0), some (.int x1), some (.int (x2 + (1 : Int32))), some (.int x3)] dX0_removeRail_40 rfl (by decide) rfl (by decide) rfl ?_
      exact t_b_X0_removeRail_43 O Z _ hr4 h8 x0 x1 (x2 + (1 : Int32)) x3 hf
theorem t_f_X0_removeRail_4 {K : Cx} {fr : Bool} {out : (Int32 × MH)} (O : Ok K yX0_removeRail.cls cX0_removeRail 4 (rmm 1 60 0 0)) (Z : Out K (some .int) fr (some (.int out.1)) out.2) : ∀ (n : Nat) (h : MH) (x0 : Nat) (x1 : Int32) (x2 : Int32) (x3 : Int32), f_X0_removeRail_4 n h x0 x1 x2 x3 = some out → EE K (fr, 0, 0) 4 [some (.ref x0), some (.int x1), some (.int x2), some (.int x3)] [] h := by
  intro n
  induction n with
  | zero => intro h x0 x1 x2 x3 hf; cases hf
  | succ n ih => intro h x0 x1 x2 x3 hf; exact t_b_X0_removeRail_4 O Z _ ih h x0 x1 x2 x3 hf
set_option maxHeartbeats 4000000 in
set_option maxRecDepth 100000 in
theorem t_X0_removeRail {g : Gx} {fr : Bool} {h : MH} {x0 x1} {out : (Int32 × MH)} (hf : f_X0_removeRail h x0 x1 = some out) : MM g yX0_removeRail cX0_removeRail 4 (some .int) 1 60 0 0 fr fr [.ref x0, .int x1] h (some (.int out.1)) out.2 := by
  unfold f_X0_removeRail at hf
  refine MM_of (L := [some (.ref x0), some (.int x1), none, none]) (by decide) (Nat.le_of_ble_eq_true rfl) rfl (fun K hK O Z hn => ?_)
  refine E_iconst (pc := 0) O (0 : Int32) dX0_removeRail_0 (by decide) ?_
  refine E_istore_n (pc := 1) O 2 [some (.ref x0), some (.int x1), some (.int (0 : Int32)), none] dX0_removeRail_1 rfl (by decide) rfl rfl ?_
  refine E_iconst (pc := 2) O (0 : Int32) dX0_removeRail_2 (by decide) ?_
  refine E_istore_n (pc := 3) O 3 [some (.ref x0), some (.int x1), some (.int (0 : Int32)), some (.int (0 : Int32))] dX0_removeRail_3 rfl (by decide) rfl rfl ?_
  exact t_f_X0_removeRail_4 O Z FU h x0 x1 (0 : Int32) (0 : Int32) hf
