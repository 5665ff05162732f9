/-! walks: the machine does what the plain functions say: written by program -/
set_option maxHeartbeats 4000000 in
set_option maxRecDepth 100000 in
theorem t_b_X1_passTick_45 {K : Cx} {fr : Bool} {out : (Int32 × MH)} (O : Ok K yX1_passTick.cls cX1_passTick 4 (rmm 4 106 0 0)) (Z : Out K (some .int) fr (some (.int out.1)) out.2) (rec12 : MH → Nat → Int32 → Int32 → Option (Int32 × MH)) (hr12 : ∀ (h : MH) (x0 : Nat) (x1 : Int32) (x2 : Int32), rec12 h x0 x1 x2 = some out → EE K (fr, 0, 0) 12 [some (.ref x0), some (.int x1), some (.int x2), none] [] h) (h : MH) (x0 : Nat) (x1 : Int32) (x2 : Int32) (hf : b_X1_passTick_45 rec12 h x0 x1 x2 = some out) : EE K (fr, 0, 0) 45 [some (.ref x0), some (.int x1), some (.int x2), none] [] h := by
  unfold b_X1_passTick_45 at hf
  refine E_iinc (pc := 45) O (1 : Int32) [some (.ref x0), some (.int x1), some (.int (x2 + (1 : Int32))), none] dX1_passTick_45 rfl (by decide) rfl (by decide) rfl ?_
  refine E_goto (pc := 48) O 12 dX1_passTick_48 (by decide) ?_
  exact hr12 h x0 x1 (x2 + (1 : Int32)) hf
set_option maxHeartbeats 4000000 in
set_option maxRecDepth 100000 in
theorem t_b_X1_passTick_12 {K : Cx} {fr : Bool} {out : (Int32 × MH)} (O : Ok K yX1_passTick.cls cX1_passTick 4 (rmm 4 106 0 0)) (Z : Out K (some .int) fr (some (.int out.1)) out.2) (rec12 : MH → Nat → Int32 → Int32 → Option (Int32 × MH)) (hr12 : ∀ (h : MH) (x0 : Nat) (x1 : Int32) (x2 : Int32), rec12 h x0 x1 x2 = some out → EE K (fr, 0, 0) 12 [some (.ref x0), some (.int x1), some (.int x2), none] [] h) (h : MH) (x0 : Nat) (x1 : Int32) (x2 : Int32) (hf : b_X1_passTick_12 rec12 h x0 x1 x2 = some out) : EE K (fr, 0, 0) 12 [some (.ref x0), some (.int x1), some (.int x2), none] [] h := by
  unfold b_X1_passTick_12 at hf
  refine E_iload_n (pc := 12) O 2 dX1_passTick_12 rfl rfl ?_
  refine E_aload_n (pc := 13) O 0 dX1_passTick_13 rfl rfl ?_
  refine E_getI (pc := 14) O FL_RailSequence_Plant_62 dX1_passTick_14 hf (fun v1 hf => ?_)
  refine E_icmp_ge (pc := 17) O 51 dX1_passTick_17 (by decide) hf (fun hf => ?_) (fun hf => ?_)
  · refine E_aload_n (pc := 51) O 0 dX1_passTick_51 rfl rfl ?_
    refine E_callV_v (pc := 52) (S := []) O [] CV_RailSequence_Plant_121 rfl (fun r e => t_X1_endTick e) dX1_passTick_52 hf rfl ⟨(Nat.le_of_ble_eq_true rfl), (Nat.le_of_ble_eq_true rfl)⟩ ⟨(Nat.le_of_ble_eq_true rfl), (Nat.le_of_ble_eq_true rfl)⟩ (Nat.le_of_ble_eq_true rfl) (fun h2 hf => ?_)
    refine E_iload_n (pc := 55) O 1 dX1_passTick_55 rfl rfl ?_
    exact E_iret (pc := 56) O Z hf ⟨(Nat.le_of_ble_eq_true rfl), (Nat.le_of_ble_eq_true rfl)⟩ dX1_passTick_56
  · refine E_aload_n (pc := 20) O 0 dX1_passTick_20 rfl rfl ?_
    refine E_iload_n (pc := 21) O 2 dX1_passTick_21 rfl rfl ?_
    refine E_callV_i (pc := 22) (S := []) O [.int x2] CV_RailSequence_Plant_114 rfl (fun r e => t_X1_nextState e) dX1_passTick_22 hf rfl ⟨(Nat.le_of_ble_eq_true rfl), (Nat.le_of_ble_eq_true rfl)⟩ ⟨(Nat.le_of_ble_eq_true rfl), (Nat.le_of_ble_eq_true rfl)⟩ (Nat.le_of_ble_eq_true rfl) (fun p3 hf => ?_)
    refine E_istore_n (pc := 25) O 3 [some (.ref x0), some (.int x1), some (.int x2), some (.int p3.1)] dX1_passTick_25 rfl (by decide) rfl rfl ?_
    refine E_iload_n (pc := 26) O 3 dX1_passTick_26 rfl rfl ?_
    refine E_aload_n (pc := 27) O 0 dX1_passTick_27 rfl rfl ?_
    refine E_getR (pc := 28) O FL_RailSequence_Plant_22 dX1_passTick_28 hf (fun v4 hf => ?_)
    refine E_iload_n (pc := 31) O 2 dX1_passTick_31 rfl rfl ?_
    refine E_iaload (pc := 32) O dX1_passTick_32 hf (fun v5 hf => ?_)
    refine E_icmp_eq (pc := 33) O 45 dX1_passTick_33 (by decide) hf (fun hf => ?_) (fun hf => ?_)
    · exact E_sub (L' := [some (.ref x0), some (.int x1), some (.int x2), none]) (And.intro rfl (And.intro rfl (And.intro rfl True.intro))) (t_b_X1_passTick_45 O Z _ hr12 p3.2 x0 x1 x2 hf)
    · refine E_aload_n (pc := 36) O 0 dX1_passTick_36 rfl rfl ?_
      refine E_iload_n (pc := 37) O 2 dX1_passTick_37 rfl rfl ?_
      refine E_iload_n (pc := 38) O 3 dX1_passTick_38 rfl rfl ?_
      refine E_callV_v (pc := 39) (S := []) O [.int x2, .int p3.1] CV_RailSequence_Plant_117 rfl (fun r e => t_X1_become e) dX1_passTick_39 hf rfl ⟨(Nat.le_of_ble_eq_true rfl), (Nat.le_of_ble_eq_true rfl)⟩ ⟨(Nat.le_of_ble_eq_true rfl), (Nat.le_of_ble_eq_true rfl)⟩ (Nat.le_of_ble_eq_true rfl) (fun h6 hf => ?_)
      refine E_iinc (pc := 42) O (1 : Int32) [some (.ref x0), some (.int (x1 + (1 : Int32))), some (.int x2), some (.int p3.1)] dX1_passTick_42 rfl (by decide) rfl (by decide) rfl ?_
      exact E_sub (L' := [some (.ref x0), some (.int (x1 + (1 : Int32))), some (.int x2), none]) (And.intro rfl (And.intro rfl (And.intro rfl True.intro))) (t_b_X1_passTick_45 O Z _ hr12 h6 x0 (x1 + (1 : Int32)) x2 hf)
theorem t_f_X1_passTick_12 {K : Cx} {fr : Bool} {out : (Int32 × MH)} (O : Ok K yX1_passTick.cls cX1_passTick 4 (rmm 4 106 0 0)) (Z : Out K (some .int) fr (some (.int out.1)) out.2) : ∀ (n : Nat) (h : MH) (x0 : Nat) (x1 : Int32) (x2 : Int32), f_X1_passTick_12 n h x0 x1 x2 = some out → EE K (fr, 0, 0) 12 [some (.ref x0), some (.int x1), some (.int x2), none] [] h := by
  intro n
  induction n with
  | zero => intro h x0 x1 x2 hf; cases hf
  | succ n ih => intro h x0 x1 x2 hf; exact t_b_X1_passTick_12 O Z _ ih h x0 x1 x2 hf
set_option maxHeartbeats 4000000 in
set_option maxRecDepth 100000 in
theorem t_X1_passTick {g : Gx} {fr : Bool} {h : MH} {x0} {out : (Int32 × MH)} (hf : f_X1_passTick h x0 = some out) : MM g yX1_passTick cX1_passTick 4 (some .int) 4 106 0 0 fr fr [.ref x0] h (some (.int out.1)) out.2 := by
  unfold f_X1_passTick at hf
  refine MM_of (L := [some (.ref x0), none, none, none]) (by decide) (Nat.le_of_ble_eq_true rfl) rfl (fun K hK O Z hn => ?_)
  refine E_aload_n (pc := 0) O 0 dX1_passTick_0 rfl rfl ?_
  refine E_callV_v (pc := 1) (S := []) O [] CV_RailSequence_Plant_108 rfl (fun r e => t_X1_rememberBefore e) dX1_passTick_1 hf rfl ⟨(Nat.le_of_ble_eq_true rfl), (Nat.le_of_ble_eq_true rfl)⟩ ⟨(Nat.le_of_ble_eq_true rfl), (Nat.le_of_ble_eq_true rfl)⟩ (Nat.le_of_ble_eq_true rfl) (fun h7 hf => ?_)
  refine E_aload_n (pc := 4) O 0 dX1_passTick_4 rfl rfl ?_
  refine E_callV_v (pc := 5) (S := []) O [] CV_RailSequence_Plant_111 rfl (fun r e => t_X1_moveVoltages e) dX1_passTick_5 hf rfl ⟨(Nat.le_of_ble_eq_true rfl), (Nat.le_of_ble_eq_true rfl)⟩ ⟨(Nat.le_of_ble_eq_true rfl), (Nat.le_of_ble_eq_true rfl)⟩ (Nat.le_of_ble_eq_true rfl) (fun h8 hf => ?_)
  refine E_iconst (pc := 8) O (0 : Int32) dX1_passTick_8 (by decide) ?_
  refine E_istore_n (pc := 9) O 1 [some (.ref x0), some (.int (0 : Int32)), none, none] dX1_passTick_9 rfl (by decide) rfl rfl ?_
  refine E_iconst (pc := 10) O (0 : Int32) dX1_passTick_10 (by decide) ?_
  refine E_istore_n (pc := 11) O 2 [some (.ref x0), some (.int (0 : Int32)), some (.int (0 : Int32)), none] dX1_passTick_11 rfl (by decide) rfl rfl ?_
  exact t_f_X1_passTick_12 O Z FU h8 x0 (0 : Int32) (0 : Int32) hf
set_option maxHeartbeats 4000000 in
set_option maxRecDepth 100000 in
theorem t_b_X1_wasStill_55 {K : Cx} {fr : Bool} {out : Int32} {h : MH} (O : Ok K yX1_wasStill.cls cX1_wasStill 2 (rmm 0 0 0 0)) (Z : Out K (some .boolean) fr (some (.int out)) h)  (hf : b_X1_wasStill_55 h  = some out) : EE K (fr, 0, 0) 55 [none, none] [] h := by
  unfold b_X1_wasStill_55 at hf
  refine E_iconst (pc := 55) O (0 : Int32) dX1_wasStill_55 (by decide) ?_
  exact E_zretP (pc := 56) O Z hf ⟨(Nat.le_of_ble_eq_true rfl), (Nat.le_of_ble_eq_true rfl)⟩ dX1_wasStill_56
set_option maxHeartbeats 4000000 in
set_option maxRecDepth 100000 in
theorem t_b_X1_wasStill_2 {K : Cx} {fr : Bool} {out : Int32} {h : MH} (O : Ok K yX1_wasStill.cls cX1_wasStill 2 (rmm 0 0 0 0)) (Z : Out K (some .boolean) fr (some (.int out)) h) (rec2 : Nat → Int32 → Option Int32) (hr2 : ∀ (x0 : Nat) (x1 : Int32), rec2 x0 x1 = some out → EE K (fr, 0, 0) 2 [some (.ref x0), some (.int x1)] [] h) (x0 : Nat) (x1 : Int32) (hf : b_X1_wasStill_2 h rec2 x0 x1 = some out) : EE K (fr, 0, 0) 2 [some (.ref x0), some (.int x1)] [] h := by
  unfold b_X1_wasStill_2 at hf
  refine E_iload_n (pc := 2) O 1 dX1_wasStill_2 rfl rfl ?_
  refine E_aload_n (pc := 3) O 0 dX1_wasStill_3 rfl rfl ?_
  refine E_getI (pc := 4) O FL_RailSequence_Plant_62 dX1_wasStill_4 hf (fun v1 hf => ?_)
  refine E_icmp_ge (pc := 7) O 63 dX1_wasStill_7 (by decide) hf (fun hf => ?_) (fun hf => ?_)
  · refine E_iconst (pc := 63) O (1 : Int32) dX1_wasStill_63 (by decide) ?_
    exact E_zretP (pc := 64) O Z hf ⟨(Nat.le_of_ble_eq_true rfl), (Nat.le_of_ble_eq_true rfl)⟩ dX1_wasStill_64
  · refine E_aload_n (pc := 10) O 0 dX1_wasStill_10 rfl rfl ?_
    refine E_getR (pc := 11) O FL_RailSequence_Plant_22 dX1_wasStill_11 hf (fun v2 hf => ?_)
    refine E_iload_n (pc := 14) O 1 dX1_wasStill_14 rfl rfl ?_
    refine E_iaload (pc := 15) O dX1_wasStill_15 hf (fun v3 hf => ?_)
    refine E_aload_n (pc := 16) O 0 dX1_wasStill_16 rfl rfl ?_
    refine E_getR (pc := 17) O FL_RailSequence_Plant_53 dX1_wasStill_17 hf (fun v4 hf => ?_)
    refine E_iload_n (pc := 20) O 1 dX1_wasStill_20 rfl rfl ?_
    refine E_iaload (pc := 21) O dX1_wasStill_21 hf (fun v5 hf => ?_)
    refine E_icmp_ne (pc := 22) O 55 dX1_wasStill_22 (by decide) hf (fun hf => ?_) (fun hf => ?_)
    · exact E_sub (L' := [none, none]) True.intro (t_b_X1_wasStill_55 O Z  hf)
    · refine E_aload_n (pc := 25) O 0 dX1_wasStill_25 rfl rfl ?_
      refine E_getR (pc := 26) O FL_RailSequence_Plant_25 dX1_wasStill_26 hf (fun v6 hf => ?_)
      refine E_iload_n (pc := 29) O 1 dX1_wasStill_29 rfl rfl ?_
      refine E_iaload (pc := 30) O dX1_wasStill_30 hf (fun v7 hf => ?_)
      refine E_aload_n (pc := 31) O 0 dX1_wasStill_31 rfl rfl ?_
      refine E_getR (pc := 32) O FL_RailSequence_Plant_56 dX1_wasStill_32 hf (fun v8 hf => ?_)
      refine E_iload_n (pc := 35) O 1 dX1_wasStill_35 rfl rfl ?_
      refine E_iaload (pc := 36) O dX1_wasStill_36 hf (fun v9 hf => ?_)
      refine E_icmp_ne (pc := 37) O 55 dX1_wasStill_37 (by decide) hf (fun hf => ?_) (fun hf => ?_)
      · exact E_sub (L' := [none, none]) True.intro (t_b_X1_wasStill_55 O Z  hf)
      · refine E_aload_n (pc := 40) O 0 dX1_wasStill_40 rfl rfl ?_
        refine E_getR (pc := 41) O FL_RailSequence_Plant_34 dX1_wasStill_41 hf (fun v10 hf => ?_)
        refine E_iload_n (pc := 44) O 1 dX1_wasStill_44 rfl rfl ?_
        refine E_iaload (pc := 45) O dX1_wasStill_45 hf (fun v11 hf => ?_)
        refine E_aload_n (pc := 46) O 0 dX1_wasStill_46 rfl rfl ?_
        refine E_getR (pc := 47) O FL_RailSequence_Plant_59 dX1_wasStill_47 hf (fun v12 hf => ?_)
        refine E_iload_n (pc := 50) O 1 dX1_wasStill_50 rfl rfl ?_
        refine E_iaload (pc := 51) O dX1_wasStill_51 hf (fun v13 hf => ?_)
        refine E_icmp_eq (pc := 52) O 57 dX1_wasStill_52 (by decide) hf (fun hf => ?_) (fun hf => ?_)
        · refine E_iinc (pc := 57) O (1 : Int32) [some (.ref x0), some (.int (x1 + (1 : Int32)))] dX1_wasStill_57 rfl (by decide) rfl (by decide) rfl ?_
          refine E_goto (pc := 60) O 2 dX1_wasStill_60 (by decide) ?_
          exact hr2 x0 (x1 + (1 : Int32)) hf
        · exact E_sub (L' := [none, none]) True.intro (t_b_X1_wasStill_55 O Z  hf)
theorem t_f_X1_wasStill_2 {K : Cx} {fr : Bool} {out : Int32} {h : MH} (O : Ok K yX1_wasStill.cls cX1_wasStill 2 (rmm 0 0 0 0)) (Z : Out K (some .boolean) fr (some (.int out)) h) : ∀ (n : Nat) (x0 : Nat) (x1 : Int32), f_X1_wasStill_2 h n x0 x1 = some out → EE K (fr, 0, 0) 2 [some (.ref x0), some (.int x1)] [] h := by
  intro n
  induction n with
  | zero => intro x0 x1 hf; cases hf
  | succ n ih => intro x0 x1 hf; exact t_b_X1_wasStill_2 O Z _ ih x0 x1 hf
set_option maxHeartbeats 4000000 in
set_option maxRecDepth 100000 in
theorem t_X1_wasStill {g : Gx} {fr : Bool} {h : MH} {x0} {out : Int32} (hf : f_X1_wasStill h x0 = some out) : MM g yX1_wasStill cX1_wasStill 2 (some .boolean) 0 0 0 0 fr fr [.ref x0] h (some (.int out)) h := by
  unfold f_X1_wasStill at hf
  refine MM_of (L := [some (.ref x0), none]) (by decide) (Nat.le_of_ble_eq_true rfl) rfl (fun K hK O Z hn => ?_)
  refine E_iconst (pc := 0) O (0 : Int32) dX1_wasStill_0 (by decide) ?_
  refine E_istore_n (pc := 1) O 1 [some (.ref x0), some (.int (0 : Int32))] dX1_wasStill_1 rfl (by decide) rfl rfl ?_
  exact t_f_X1_wasStill_2 O Z FU x0 (0 : Int32) hf
set_option maxHeartbeats 4000000 in
set_option maxRecDepth 100000 in
theorem t_b_X1_justDropped_63 {K : Cx} {fr : Bool} {out : Int32} {h : MH} (O : Ok K yX1_justDropped.cls cX1_justDropped 4 (rmm 0 0 0 0)) (Z : Out K (some .int) fr (some (.int out)) h) (rec4 : Nat → Int32 → Int32 → Option Int32) (hr4 : ∀ (x0 : Nat) (x1 : Int32) (x2 : Int32), rec4 x0 x1 x2 = some out → EE K (fr, 0, 0) 4 [some (.ref x0), some (.int x1), some (.int x2), none] [] h) (x0 : Nat) (x1 : Int32) (x2 : Int32) (hf : b_X1_justDropped_63 h rec4 x0 x1 x2 = some out) : EE K (fr, 0, 0) 63 [some (.ref x0), some (.int x1), some (.int x2), none] [] h := by
  unfold b_X1_justDropped_63 at hf
  refine E_iinc (pc := 63) O (1 : Int32) [some (.ref x0), some (.int x1), some (.int (x2 + (1 : Int32))), none] dX1_justDropped_63 rfl (by decide) rfl (by decide) rfl ?_
  refine E_goto (pc := 66) O 4 dX1_justDropped_66 (by decide) ?_
  exact hr4 x0 x1 (x2 + (1 : Int32)) hf
set_option maxHeartbeats 4000000 in
set_option maxRecDepth 100000 in
theorem t_b_X1_justDropped_37 {K : Cx} {fr : Bool} {out : Int32} {h : MH} (O : Ok K yX1_justDropped.cls cX1_justDropped 4 (rmm 0 0 0 0)) (Z : Out K (some .int) fr (some (.int out)) h) (rec4 : Nat → Int32 → Int32 → Option Int32) (hr4 : ∀ (x0 : Nat) (x1 : Int32) (x2 : Int32), rec4 x0 x1 x2 = some out → EE K (fr, 0, 0) 4 [some (.ref x0), some (.int x1), some (.int x2), none] [] h) (x0 : Nat) (x1 : Int32) (x2 : Int32) (s0 : Int32) (hf : b_X1_justDropped_37 h rec4 x0 x1 x2 s0 = some out) : EE K (fr, 0, 0) 37 [some (.ref x0), some (.int x1), some (.int x2), none] [.int s0] h := by
  unfold b_X1_justDropped_37 at hf
  refine E_istore_n (pc := 37) O 3 [some (.ref x0), some (.int x1), some (.int x2), some (.int s0)] dX1_justDropped_37 rfl (by decide) rfl rfl ?_
  refine E_iload_n (pc := 38) O 3 dX1_justDropped_38 rfl rfl ?_
  refine E_if_eq (pc := 39) O 63 dX1_justDropped_39 (by decide) hf (fun hf => ?_) (fun hf => ?_)
  · exact E_sub (L' := [some (.ref x0), some (.int x1), some (.int x2), none]) (And.intro rfl (And.intro rfl (And.intro rfl True.intro))) (t_b_X1_justDropped_63 O Z _ hr4 x0 x1 x2 hf)
  · refine E_aload_n (pc := 42) O 0 dX1_justDropped_42 rfl rfl ?_
    refine E_getR (pc := 43) O FL_RailSequence_Plant_22 dX1_justDropped_43 hf (fun v1 hf => ?_)
    refine E_iload_n (pc := 46) O 2 dX1_justDropped_46 rfl rfl ?_
    refine E_iaload (pc := 47) O dX1_justDropped_47 hf (fun v2 hf => ?_)
    refine E_aload_n (pc := 48) O 0 dX1_justDropped_48 rfl rfl ?_
    refine E_getR (pc := 49) O FL_RailSequence_Plant_53 dX1_justDropped_49 hf (fun v3 hf => ?_)
    refine E_iload_n (pc := 52) O 2 dX1_justDropped_52 rfl rfl ?_
    refine E_iaload (pc := 53) O dX1_justDropped_53 hf (fun v4 hf => ?_)
    refine E_icmp_eq (pc := 54) O 63 dX1_justDropped_54 (by decide) hf (fun hf => ?_) (fun hf => ?_)
    · exact E_sub (L' := [some (.ref x0), some (.int x1), some (.int x2), none]) (And.intro rfl (And.intro rfl (And.intro rfl True.intro))) (t_b_X1_justDropped_63 O Z _ hr4 x0 x1 x2 hf)
    · refine E_iload_n (pc := 57) O 1 dX1_justDropped_57 rfl rfl ?_
      refine E_iconst (pc := 58) O (1 : Int32) dX1_justDropped_58 (by decide) ?_
      refine E_iload_n (pc := 59) O 2 dX1_justDropped_59 rfl rfl ?_
      refine E_ishl (pc := 60) O dX1_justDropped_60 ?_
      refine E_ior (pc := 61) O dX1_justDropped_61 ?_
      obtain ⟨v5, ev5, hf⟩ := ob hf
      have ev5 := os ev5
      rw [ev5]
      refine E_istore_n (pc := 62) O 1 [some (.ref x0), some (.int v5), some (.int x2), some (.int s0)] dX1_justDropped_62 rfl (by decide) rfl rfl ?_
      exact E_sub (L' := [some (.ref x0), some (.int v5), some (.int x2), none]) (And.intro rfl (And.intro rfl (And.intro rfl True.intro))) (t_b_X1_justDropped_63 O Z _ hr4 x0 v5 x2 hf)
set_option maxHeartbeats 4000000 in
set_option maxRecDepth 100000 in
theorem t_b_X1_justDropped_32 {K : Cx} {fr : Bool} {out : Int32} {h : MH} (O : Ok K yX1_justDropped.cls cX1_justDropped 4 (rmm 0 0 0 0)) (Z : Out K (some .int) fr (some (.int out)) h) (rec4 : Nat → Int32 → Int32 → Option Int32) (hr4 : ∀ (x0 : Nat) (x1 : Int32) (x2 : Int32), rec4 x0 x1 x2 = some out → EE K (fr, 0, 0) 4 [some (.ref x0), some (.int x1), some (.int x2), none] [] h) (x0 : Nat) (x1 : Int32) (x2 : Int32) (hf : b_X1_justDropped_32 h rec4 x0 x1 x2 = some out) : EE K (fr, 0, 0) 32 [some (.ref x0), some (.int x1), some (.int x2), none] [] h := by
  unfold b_X1_justDropped_32 at hf
  refine E_iconst (pc := 32) O (1 : Int32) dX1_justDropped_32 (by decide) ?_
  refine E_goto (pc := 33) O 37 dX1_justDropped_33 (by decide) ?_
  exact t_b_X1_justDropped_37 O Z _ hr4 x0 x1 x2 (1 : Int32) hf
set_option maxHeartbeats 4000000 in
set_option maxRecDepth 100000 in
theorem t_b_X1_justDropped_4 {K : Cx} {fr : Bool} {out : Int32} {h : MH} (O : Ok K yX1_justDropped.cls cX1_justDropped 4 (rmm 0 0 0 0)) (Z : Out K (some .int) fr (some (.int out)) h) (rec4 : Nat → Int32 → Int32 → Option Int32) (hr4 : ∀ (x0 : Nat) (x1 : Int32) (x2 : Int32), rec4 x0 x1 x2 = some out → EE K (fr, 0, 0) 4 [some (.ref x0), some (.int x1), some (.int x2), none] [] h) (x0 : Nat) (x1 : Int32) (x2 : Int32) (hf : b_X1_justDropped_4 h rec4 x0 x1 x2 = some out) : EE K (fr, 0, 0) 4 [some (.ref x0), some (.int x1), some (.int x2), none] [] h := by
  unfold b_X1_justDropped_4 at hf
  refine E_iload_n (pc := 4) O 2 dX1_justDropped_4 rfl rfl ?_
  refine E_aload_n (pc := 5) O 0 dX1_justDropped_5 rfl rfl ?_
  refine E_getI (pc := 6) O FL_RailSequence_Plant_62 dX1_justDropped_6 hf (fun v6 hf => ?_)
  refine E_icmp_ge (pc := 9) O 69 dX1_justDropped_9 (by decide) hf (fun hf => ?_) (fun hf => ?_)
  · refine E_iload_n (pc := 69) O 1 dX1_justDropped_69 rfl rfl ?_
    exact E_iretP (pc := 70) O Z hf ⟨(Nat.le_of_ble_eq_true rfl), (Nat.le_of_ble_eq_true rfl)⟩ dX1_justDropped_70
  · refine E_aload_n (pc := 12) O 0 dX1_justDropped_12 rfl rfl ?_
    refine E_getR (pc := 13) O FL_RailSequence_Plant_22 dX1_justDropped_13 hf (fun v7 hf => ?_)
    refine E_iload_n (pc := 16) O 2 dX1_justDropped_16 rfl rfl ?_
    refine E_iaload (pc := 17) O dX1_justDropped_17 hf (fun v8 hf => ?_)
    refine E_iconst (pc := 18) O (4 : Int32) dX1_justDropped_18 (by decide) ?_
    refine E_icmp_eq (pc := 19) O 32 dX1_justDropped_19 (by decide) hf (fun hf => ?_) (fun hf => ?_)
    · exact t_b_X1_justDropped_32 O Z _ hr4 x0 x1 x2 hf
    · refine E_aload_n (pc := 22) O 0 dX1_justDropped_22 rfl rfl ?_
      refine E_getR (pc := 23) O FL_RailSequence_Plant_22 dX1_justDropped_23 hf (fun v9 hf => ?_)
      refine E_iload_n (pc := 26) O 2 dX1_justDropped_26 rfl rfl ?_
      refine E_iaload (pc := 27) O dX1_justDropped_27 hf (fun v10 hf => ?_)
      refine E_iconst (pc := 28) O (5 : Int32) dX1_justDropped_28 (by decide) ?_
      refine E_icmp_ne (pc := 29) O 36 dX1_justDropped_29 (by decide) hf (fun hf => ?_) (fun hf => ?_)
      · refine E_iconst (pc := 36) O (0 : Int32) dX1_justDropped_36 (by decide) ?_
        exact t_b_X1_justDropped_37 O Z _ hr4 x0 x1 x2 (0 : Int32) hf
      · exact t_b_X1_justDropped_32 O Z _ hr4 x0 x1 x2 hf
theorem t_f_X1_justDropped_4 {K : Cx} {fr : Bool} {out : Int32} {h : MH} (O : Ok K yX1_justDropped.cls cX1_justDropped 4 (rmm 0 0 0 0)) (Z : Out K (some .int) fr (some (.int out)) h) : ∀ (n : Nat) (x0 : Nat) (x1 : Int32) (x2 : Int32), f_X1_justDropped_4 h n x0 x1 x2 = some out → EE K (fr, 0, 0) 4 [some (.ref x0), some (.int x1), some (.int x2), none] [] h := by
  intro n
  induction n with
  | zero => intro x0 x1 x2 hf; cases hf
  | succ n ih => intro x0 x1 x2 hf; exact t_b_X1_justDropped_4 O Z _ ih x0 x1 x2 hf
set_option maxHeartbeats 4000000 in
set_option maxRecDepth 100000 in
theorem t_X1_justDropped {g : Gx} {fr : Bool} {h : MH} {x0} {out : Int32} (hf : f_X1_justDropped h x0 = some out) : MM g yX1_justDropped cX1_justDropped 4 (some .int) 0 0 0 0 fr fr [.ref x0] h (some (.int out)) h := by
  unfold f_X1_justDropped at hf
  refine MM_of (L := [some (.ref x0), none, none, none]) (by decide) (Nat.le_of_ble_eq_true rfl) rfl (fun K hK O Z hn => ?_)
  refine E_iconst (pc := 0) O (0 : Int32) dX1_justDropped_0 (by decide) ?_
  refine E_istore_n (pc := 1) O 1 [some (.ref x0), some (.int (0 : Int32)), none, none] dX1_justDropped_1 rfl (by decide) rfl rfl ?_
  refine E_iconst (pc := 2) O (0 : Int32) dX1_justDropped_2 (by decide) ?_
  refine E_istore_n (pc := 3) O 2 [some (.ref x0), some (.int (0 : Int32)), some (.int (0 : Int32)), none] dX1_justDropped_3 rfl (by decide) rfl rfl ?_
  exact t_f_X1_justDropped_4 O Z FU x0 (0 : Int32) (0 : Int32) hf
set_option maxHeartbeats 4000000 in
set_option maxRecDepth 100000 in
theorem t_b_X1_isToDrop_43 {K : Cx} {fr : Bool} {out : Int32} {h : MH} (O : Ok K yX1_isToDrop.cls cX1_isToDrop 2 (rmm 1 21 0 0)) (Z : Out K (some .boolean) fr (some (.int out)) h) (s0 : Int32) (hf : b_X1_isToDrop_43 h s0 = some out) : EE K (fr, 0, 0) 43 [none, none] [.int s0] h := by
  unfold b_X1_isToDrop_43 at hf
  exact E_zretP (pc := 43) O Z hf ⟨(Nat.le_of_ble_eq_true rfl), (Nat.le_of_ble_eq_true rfl)⟩ dX1_isToDrop_43
set_option maxHeartbeats 4000000 in
set_option maxRecDepth 100000 in
theorem t_b_X1_isToDrop_38 {K : Cx} {fr : Bool} {out : Int32} {h : MH} (O : Ok K yX1_isToDrop.cls cX1_isToDrop 2 (rmm 1 21 0 0)) (Z : Out K (some .boolean) fr (some (.int out)) h)  (hf : b_X1_isToDrop_38 h  = some out) : EE K (fr, 0, 0) 38 [none, none] [] h := by
  unfold b_X1_isToDrop_38 at hf
  refine E_iconst (pc := 38) O (1 : Int32) dX1_isToDrop_38 (by decide) ?_
  refine E_goto (pc := 39) O 43 dX1_isToDrop_39 (by decide) ?_
  exact t_b_X1_isToDrop_43 O Z (1 : Int32) hf
set_option maxHeartbeats 4000000 in
set_option maxRecDepth 100000 in
theorem t_b_X1_isToDrop_42 {K : Cx} {fr : Bool} {out : Int32} {h : MH} (O : Ok K yX1_isToDrop.cls cX1_isToDrop 2 (rmm 1 21 0 0)) (Z : Out K (some .boolean) fr (some (.int out)) h)  (hf : b_X1_isToDrop_42 h  = some out) : EE K (fr, 0, 0) 42 [none, none] [] h := by
  unfold b_X1_isToDrop_42 at hf
  refine E_iconst (pc := 42) O (0 : Int32) dX1_isToDrop_42 (by decide) ?_
  exact t_b_X1_isToDrop_43 O Z (0 : Int32) hf
set_option maxHeartbeats 4000000 in
set_option maxRecDepth 100000 in
theorem t_X1_isToDrop {g : Gx} {fr : Bool} {h : MH} {x0 x1} {out : Int32} (hf : f_X1_isToDrop h x0 x1 = some out) : MM g yX1_isToDrop cX1_isToDrop 2 (some .boolean) 1 21 0 0 fr fr [.ref x0, .int x1] h (some (.int out)) h := by
  unfold f_X1_isToDrop at hf
  refine MM_of (L := [some (.ref x0), some (.int x1)]) (by decide) (Nat.le_of_ble_eq_true rfl) rfl (fun K hK O Z hn => ?_)
  refine E_aload_n (pc := 0) O 0 dX1_isToDrop_0 rfl rfl ?_
  refine E_getR (pc := 1) O FL_RailSequence_Plant_22 dX1_isToDrop_1 hf (fun v1 hf => ?_)
  refine E_iload_n (pc := 4) O 1 dX1_isToDrop_4 rfl rfl ?_
  refine E_iaload (pc := 5) O dX1_isToDrop_5 hf (fun v2 hf => ?_)
  refine E_iconst (pc := 6) O (2 : Int32) dX1_isToDrop_6 (by decide) ?_
  refine E_icmp_eq (pc := 7) O 38 dX1_isToDrop_7 (by decide) hf (fun hf => ?_) (fun hf => ?_)
  · exact E_sub (L' := [none, none]) True.intro (t_b_X1_isToDrop_38 O Z  hf)
  · refine E_aload_n (pc := 10) O 0 dX1_isToDrop_10 rfl rfl ?_
    refine E_getR (pc := 11) O FL_RailSequence_Plant_22 dX1_isToDrop_11 hf (fun v3 hf => ?_)
    refine E_iload_n (pc := 14) O 1 dX1_isToDrop_14 rfl rfl ?_
    refine E_iaload (pc := 15) O dX1_isToDrop_15 hf (fun v4 hf => ?_)
    refine E_iconst (pc := 16) O (3 : Int32) dX1_isToDrop_16 (by decide) ?_
    refine E_icmp_eq (pc := 17) O 38 dX1_isToDrop_17 (by decide) hf (fun hf => ?_) (fun hf => ?_)
    · exact E_sub (L' := [none, none]) True.intro (t_b_X1_isToDrop_38 O Z  hf)
    · refine E_aload_n (pc := 20) O 0 dX1_isToDrop_20 rfl rfl ?_
      refine E_getR (pc := 21) O FL_RailSequence_Plant_22 dX1_isToDrop_21 hf (fun v5 hf => ?_)
      refine E_iload_n (pc := 24) O 1 dX1_isToDrop_24 rfl rfl ?_
      refine E_iaload (pc := 25) O dX1_isToDrop_25 hf (fun v6 hf => ?_)
      refine E_iconst (pc := 26) O (5 : Int32) dX1_isToDrop_26 (by decide) ?_
      refine E_icmp_ne (pc := 27) O 42 dX1_isToDrop_27 (by decide) hf (fun hf => ?_) (fun hf => ?_)
      · exact E_sub (L' := [none, none]) True.intro (t_b_X1_isToDrop_42 O Z  hf)
      · refine E_aload_n (pc := 30) O 0 dX1_isToDrop_30 rfl rfl ?_
        refine E_iload_n (pc := 31) O 1 dX1_isToDrop_31 rfl rfl ?_
        refine E_callV_iP (pc := 32) (S := []) O [.int x1] CV_RailSequence_Plant_85 rfl (fun r e => t_X1_isWanted e) dX1_isToDrop_32 hf rfl ⟨(Nat.le_of_ble_eq_true rfl), (Nat.le_of_ble_eq_true rfl)⟩ ⟨(Nat.le_of_ble_eq_true rfl), (Nat.le_of_ble_eq_true rfl)⟩ (Nat.le_of_ble_eq_true rfl) (fun v7 hf => ?_)
        refine E_if_eq (pc := 35) O 42 dX1_isToDrop_35 (by decide) hf (fun hf => ?_) (fun hf => ?_)
        · exact E_sub (L' := [none, none]) True.intro (t_b_X1_isToDrop_42 O Z  hf)
        · exact E_sub (L' := [none, none]) True.intro (t_b_X1_isToDrop_38 O Z  hf)
set_option maxHeartbeats 4000000 in
set_option maxRecDepth 100000 in
theorem t_b_X1_dropForRestart_66 {K : Cx} {fr : Bool} {out : (Int32 × MH)} (O : Ok K yX1_dropForRestart.cls cX1_dropForRestart 5 (rmm 3 106 0 0)) (Z : Out K (some .int) fr (some (.int out.1)) out.2) (rec13 : MH → Nat → Int32 → Int32 → Int32 → Int32 → Option (Int32 × MH)) (hr13 : ∀ (h : MH) (x0 : Nat) (x1 : Int32) (x2 : Int32) (x3 : Int32) (x4 : Int32), rec13 h x0 x1 x2 x3 x4 = some out → EE K (fr, 0, 0) 13 [some (.ref x0), some (.int x1), some (.int x2), some (.int x3), some (.int x4)] [] h) (h : MH) (x0 : Nat) (x1 : Int32) (x2 : Int32) (x3 : Int32) (x4 : Int32) (hf : b_X1_dropForRestart_66 rec13 h x0 x1 x2 x3 x4 = some out) : EE K (fr, 0, 0) 66 [some (.ref x0), some (.int x1), some (.int x2), some (.int x3), some (.int x4)] [] h := by
  unfold b_X1_dropForRestart_66 at hf
  refine E_iinc (pc := 66) O (1 : Int32) [some (.ref x0), some (.int x1), some (.int x2), some (.int x3), some (.int (x4 + (1 : Int32)))] dX1_dropForRestart_66 rfl (by decide) rfl (by decide) rfl ?_
  refine E_goto (pc := 69) O 13 dX1_dropForRestart_69 (by decide) ?_
  exact hr13 h x0 x1 x2 x3 (x4 + (1 : Int32)) hf
set_option maxHeartbeats 4000000 in
set_option maxRecDepth 100000 in
theorem t_b_X1_dropForRestart_13 {K : Cx} {fr : Bool} {out : (Int32 × MH)} (O : Ok K yX1_dropForRestart.cls cX1_dropForRestart 5 (rmm 3 106 0 0)) (Z : Out K (some .int) fr (some (.int out.1)) out.2) (rec13 : MH → Nat → Int32 → Int32 → Int32 → Int32 → Option (Int32 × MH)) (hr13 : ∀ (h : MH) (x0 : Nat) (x1 : Int32) (x2 : Int32) (x3 : Int32) (x4 : Int32), rec13 h x0 x1 x2 x3 x4 = some out → EE K (fr, 0, 0) 13 [some (.ref x0), some (.int x1), some (.int x2), some (.int x3), some (.int x4)] [] h) (h : MH) (x0 : Nat) (x1 : Int32) (x2 : Int32) (x3 : Int32) (x4 : Int32) (hf : b_X1_dropForRestart_13 rec13 h x0 x1 x2 x3 x4 = some out) : EE K (fr, 0, 0) 13 [some (.ref x0), some (.int x1), some (.int x2), some (.int x3), some (.int x4)] [] h := by
  unfold b_X1_dropForRestart_13 at hf
  refine E_iload (pc := 13) O dX1_dropForRestart_13 rfl ?_
  refine E_aload_n (pc := 15) O 0 dX1_dropForRestart_15 rfl rfl ?_
  refine E_getI (pc := 16) O FL_RailSequence_Plant_62 dX1_dropForRestart_16 hf (fun v1 hf => ?_)
  refine E_icmp_ge (pc := 19) O 72 dX1_dropForRestart_19 (by decide) hf (fun hf => ?_) (fun hf => ?_)
  · refine E_iload_n (pc := 72) O 3 dX1_dropForRestart_72 rfl rfl ?_
    exact E_iret (pc := 73) O Z hf ⟨(Nat.le_of_ble_eq_true rfl), (Nat.le_of_ble_eq_true rfl)⟩ dX1_dropForRestart_73
  · refine E_iload_n (pc := 22) O 2 dX1_dropForRestart_22 rfl rfl ?_
    refine E_iconst (pc := 23) O (1 : Int32) dX1_dropForRestart_23 (by decide) ?_
    refine E_iload (pc := 24) O dX1_dropForRestart_24 rfl ?_
    refine E_ishl (pc := 26) O dX1_dropForRestart_26 ?_
    refine E_iand (pc := 27) O dX1_dropForRestart_27 ?_
    refine E_if_eq (pc := 28) O 66 dX1_dropForRestart_28 (by decide) hf (fun hf => ?_) (fun hf => ?_)
    · exact t_b_X1_dropForRestart_66 O Z _ hr13 h x0 x1 x2 x3 x4 hf
    · refine E_aload_n (pc := 31) O 0 dX1_dropForRestart_31 rfl rfl ?_
      refine E_iload (pc := 32) O dX1_dropForRestart_32 rfl ?_
      refine E_callV_iP (pc := 34) (S := []) O [.int x4] CV_RailSequence_Plant_160 rfl (fun r e => t_X1_isToDrop e) dX1_dropForRestart_34 hf rfl ⟨(Nat.le_of_ble_eq_true rfl), (Nat.le_of_ble_eq_true rfl)⟩ ⟨(Nat.le_of_ble_eq_true rfl), (Nat.le_of_ble_eq_true rfl)⟩ (Nat.le_of_ble_eq_true rfl) (fun v2 hf => ?_)
      refine E_if_eq (pc := 37) O 66 dX1_dropForRestart_37 (by decide) hf (fun hf => ?_) (fun hf => ?_)
      · exact t_b_X1_dropForRestart_66 O Z _ hr13 h x0 x1 x2 x3 x4 hf
      · refine E_aload_n (pc := 40) O 0 dX1_dropForRestart_40 rfl rfl ?_
        refine E_getR (pc := 41) O FL_RailSequence_Plant_40 dX1_dropForRestart_41 hf (fun v3 hf => ?_)
        refine E_iload (pc := 44) O dX1_dropForRestart_44 rfl ?_
        refine E_iload_n (pc := 46) O 1 dX1_dropForRestart_46 rfl rfl ?_
        refine E_iastore (pc := 47) O dX1_dropForRestart_47 hf (fun h4 hf => ?_)
        refine E_aload_n (pc := 48) O 0 dX1_dropForRestart_48 rfl rfl ?_
        refine E_getR (pc := 49) O FL_RailSequence_Plant_37 dX1_dropForRestart_49 hf (fun v5 hf => ?_)
        refine E_iload (pc := 52) O dX1_dropForRestart_52 rfl ?_
        refine E_iconst (pc := 54) O (0 : Int32) dX1_dropForRestart_54 (by decide) ?_
        refine E_iastore (pc := 55) O dX1_dropForRestart_55 hf (fun h6 hf => ?_)
        refine E_aload_n (pc := 56) O 0 dX1_dropForRestart_56 rfl rfl ?_
        refine E_iload (pc := 57) O dX1_dropForRestart_57 rfl ?_
        refine E_iconst (pc := 59) O (4 : Int32) dX1_dropForRestart_59 (by decide) ?_
        refine E_callV_v (pc := 60) (S := []) O [.int x4, .int (4 : Int32)] CV_RailSequence_Plant_117 rfl (fun r e => t_X1_become e) dX1_dropForRestart_60 hf rfl ⟨(Nat.le_of_ble_eq_true rfl), (Nat.le_of_ble_eq_true rfl)⟩ ⟨(Nat.le_of_ble_eq_true rfl), (Nat.le_of_ble_eq_true rfl)⟩ (Nat.le_of_ble_eq_true rfl) (fun h7 hf => ?_)
        refine E_iinc (pc := 63) O (1 : Int32) [some (.ref x0), some (.int x1), some (.int x2), some (.int (x3 + (1 : Int32))), some (.int x4)] dX1_dropForRestart_63 rfl (by decide) rfl (by decide) rfl ?_
        exact t_b_X1_dropForRestart_66 O Z _ hr13 h7 x0 x1 x2 (x3 + (1 : Int32)) x4 hf
theorem t_f_X1_dropForRestart_13 {K : Cx} {fr : Bool} {out : (Int32 × MH)} (O : Ok K yX1_dropForRestart.cls cX1_dropForRestart 5 (rmm 3 106 0 0)) (Z : Out K (some .int) fr (some (.int out.1)) out.2) : ∀ (n : Nat) (h : MH) (x0 : Nat) (x1 : Int32) (x2 : Int32) (x3 : Int32) (x4 : Int32), f_X1_dropForRestart_13 n h x0 x1 x2 x3 x4 = some out → EE K (fr, 0, 0) 13 [some (.ref x0), some (.int x1), some (.int x2), some (.int x3), some (.int x4)] [] h := by
  intro n
  induction n with
  | zero => intro h x0 x1 x2 x3 x4 hf; cases hf
  | succ n ih => intro h x0 x1 x2 x3 x4 hf; exact t_b_X1_dropForRestart_13 O Z _ ih h x0 x1 x2 x3 x4 hf
set_option maxHeartbeats 4000000 in
set_option maxRecDepth 100000 in
theorem t_X1_dropForRestart {g : Gx} {fr : Bool} {h : MH} {x0 x1} {out : (Int32 × MH)} (hf : f_X1_dropForRestart h x0 x1 = some out) : MM g yX1_dropForRestart cX1_dropForRestart 5 (some .int) 3 106 0 0 fr fr [.ref x0, .int x1] h (some (.int out.1)) out.2 := by
  unfold f_X1_dropForRestart at hf
  refine MM_of (L := [some (.ref x0), some (.int x1), none, none, none]) (by decide) (Nat.le_of_ble_eq_true rfl) rfl (fun K hK O Z hn => ?_)
  refine E_aload_n (pc := 0) O 0 dX1_dropForRestart_0 rfl rfl ?_
  refine E_iconst (pc := 1) O (1 : Int32) dX1_dropForRestart_1 (by decide) ?_
  refine E_iload_n (pc := 2) O 1 dX1_dropForRestart_2 rfl rfl ?_
  refine E_ishl (pc := 3) O dX1_dropForRestart_3 ?_
  refine E_callV_iP (pc := 4) (S := []) O [.int ((1 : Int32) <<< (x1 &&& 31))] CV_RailSequence_Plant_81 rfl (fun r e => t_X1_withFollowers e) dX1_dropForRestart_4 hf rfl ⟨(Nat.le_of_ble_eq_true rfl), (Nat.le_of_ble_eq_true rfl)⟩ ⟨(Nat.le_of_ble_eq_true rfl), (Nat.le_of_ble_eq_true rfl)⟩ (Nat.le_of_ble_eq_true rfl) (fun v8 hf => ?_)
  refine E_istore_n (pc := 7) O 2 [some (.ref x0), some (.int x1), some (.int v8), none, none] dX1_dropForRestart_7 rfl (by decide) rfl rfl ?_
  refine E_iconst (pc := 8) O (0 : Int32) dX1_dropForRestart_8 (by decide) ?_
  refine E_istore_n (pc := 9) O 3 [some (.ref x0), some (.int x1), some (.int v8), some (.int (0 : Int32)), none] dX1_dropForRestart_9 rfl (by decide) rfl rfl ?_
  refine E_iload_n (pc := 10) O 1 dX1_dropForRestart_10 rfl rfl ?_
  refine E_istore (pc := 11) O [some (.ref x0), some (.int x1), some (.int v8), some (.int (0 : Int32)), some (.int x1)] dX1_dropForRestart_11 (by decide) rfl rfl ?_
  exact t_f_X1_dropForRestart_13 O Z FU h x0 x1 v8 (0 : Int32) x1 hf
