/-! walks: the machine does what the plain functions say: written by program -/
set_option maxHeartbeats 4000000 in
set_option maxRecDepth 100000 in
theorem t_b_X4_set_69 {K : Cx} {fr : Bool} {out : (Int32 × MH)} (O : Ok K yX4_set.cls cX4_set 5 (rmm 2 47 0 0)) (Z : Out K (some .int) fr (some (.int out.1)) out.2) (h : MH) (s0 : Int32) (hf : b_X4_set_69 h s0 = some out) : EE K (fr, 0, 0) 69 [none, none, none, none, none] [.int s0] h := by
  unfold b_X4_set_69 at hf
  exact E_iret (pc := 69) O Z hf ⟨(Nat.le_of_ble_eq_true rfl), (Nat.le_of_ble_eq_true rfl)⟩ dX4_set_69
set_option maxHeartbeats 4000000 in
set_option maxRecDepth 100000 in
theorem t_b_X4_set_48 {K : Cx} {fr : Bool} {out : (Int32 × MH)} (O : Ok K yX4_set.cls cX4_set 5 (rmm 2 47 0 0)) (Z : Out K (some .int) fr (some (.int out.1)) out.2) (h : MH) (x0 : Nat) (x1 : Int32) (x2 : Int32) (x3 : Int32) (s0 : Nat) (s1 : Int32) (hf : b_X4_set_48 h x0 x1 x2 x3 s0 s1 = some out) : EE K (fr, 0, 0) 48 [some (.ref x0), some (.int x1), some (.int x2), some (.int x3), none] [.int s1, .ref s0] h := by
  unfold b_X4_set_48 at hf
  refine E_put (pc := 48) O FN_RailSequenceModel_28 rfl rfl dX4_set_48 hf (fun h1 hf => ?_)
  refine E_aload_n (pc := 51) O 0 dX4_set_51 rfl rfl ?_
  refine E_getI (pc := 52) O FL_RailSequenceModel_28 dX4_set_52 hf (fun v2 hf => ?_)
  refine E_if_le (pc := 55) O 62 dX4_set_55 (by decide) hf (fun hf => ?_) (fun hf => ?_)
  · refine E_aload_n (pc := 62) O 0 dX4_set_62 rfl rfl ?_
    refine E_iload_n (pc := 63) O 1 dX4_set_63 rfl rfl ?_
    refine E_iload_n (pc := 64) O 2 dX4_set_64 rfl rfl ?_
    refine E_iload_n (pc := 65) O 3 dX4_set_65 rfl rfl ?_
    refine E_callV_i (pc := 66) (S := []) O [.int x1, .int x2, .int x3] CV_RailSequenceModel_120 rfl (fun r e => t_X4_replaced e) dX4_set_66 hf rfl ⟨(Nat.le_of_ble_eq_true rfl), (Nat.le_of_ble_eq_true rfl)⟩ ⟨(Nat.le_of_ble_eq_true rfl), (Nat.le_of_ble_eq_true rfl)⟩ (Nat.le_of_ble_eq_true rfl) (fun p3 hf => ?_)
    exact E_sub (L' := [none, none, none, none, none]) True.intro (t_b_X4_set_69 O Z p3.2 p3.1 hf)
  · refine E_iconst (pc := 58) O (0 : Int32) dX4_set_58 (by decide) ?_
    refine E_goto (pc := 59) O 69 dX4_set_59 (by decide) ?_
    exact E_sub (L' := [none, none, none, none, none]) True.intro (t_b_X4_set_69 O Z h1 (0 : Int32) hf)
set_option maxHeartbeats 4000000 in
set_option maxRecDepth 100000 in
theorem t_b_X4_set_23 {K : Cx} {fr : Bool} {out : (Int32 × MH)} (O : Ok K yX4_set.cls cX4_set 5 (rmm 2 47 0 0)) (Z : Out K (some .int) fr (some (.int out.1)) out.2) (h : MH) (x0 : Nat) (x1 : Int32) (x2 : Int32) (x3 : Int32) (s0 : Int32) (hf : b_X4_set_23 h x0 x1 x2 x3 s0 = some out) : EE K (fr, 0, 0) 23 [some (.ref x0), some (.int x1), some (.int x2), some (.int x3), none] [.int s0] h := by
  unfold b_X4_set_23 at hf
  refine E_istore (pc := 23) O [some (.ref x0), some (.int x1), some (.int x2), some (.int x3), some (.int s0)] dX4_set_23 (by decide) rfl rfl ?_
  refine E_aload_n (pc := 25) O 0 dX4_set_25 rfl rfl ?_
  refine E_iload (pc := 26) O dX4_set_26 rfl ?_
  refine E_if_ne (pc := 28) O 35 dX4_set_28 (by decide) hf (fun hf => ?_) (fun hf => ?_)
  · refine E_iload_n (pc := 35) O 2 dX4_set_35 rfl rfl ?_
    refine E_iload_n (pc := 36) O 3 dX4_set_36 rfl rfl ?_
    refine E_callS_iP (pc := 37) (S := [.ref x0]) O [.int x2, .int x3] CS_RailSequenceModel_104 (fun r e => t_X4_isValue e) dX4_set_37 hf rfl ⟨(Nat.le_of_ble_eq_true rfl), (Nat.le_of_ble_eq_true rfl)⟩ ⟨(Nat.le_of_ble_eq_true rfl), (Nat.le_of_ble_eq_true rfl)⟩ (Nat.le_of_ble_eq_true rfl) (fun v4 hf => ?_)
    refine E_if_eq (pc := 40) O 47 dX4_set_40 (by decide) hf (fun hf => ?_) (fun hf => ?_)
    · refine E_iconst (pc := 47) O (2 : Int32) dX4_set_47 (by decide) ?_
      exact E_sub (L' := [some (.ref x0), some (.int x1), some (.int x2), some (.int x3), none]) (And.intro rfl (And.intro rfl (And.intro rfl (And.intro rfl True.intro)))) (t_b_X4_set_48 O Z h x0 x1 x2 x3 x0 (2 : Int32) hf)
    · refine E_iconst (pc := 43) O (0 : Int32) dX4_set_43 (by decide) ?_
      refine E_goto (pc := 44) O 48 dX4_set_44 (by decide) ?_
      exact E_sub (L' := [some (.ref x0), some (.int x1), some (.int x2), some (.int x3), none]) (And.intro rfl (And.intro rfl (And.intro rfl (And.intro rfl True.intro)))) (t_b_X4_set_48 O Z h x0 x1 x2 x3 x0 (0 : Int32) hf)
  · refine E_iconst (pc := 31) O (1 : Int32) dX4_set_31 (by decide) ?_
    refine E_goto (pc := 32) O 48 dX4_set_32 (by decide) ?_
    exact E_sub (L' := [some (.ref x0), some (.int x1), some (.int x2), some (.int x3), none]) (And.intro rfl (And.intro rfl (And.intro rfl (And.intro rfl True.intro)))) (t_b_X4_set_48 O Z h x0 x1 x2 x3 x0 (1 : Int32) hf)
set_option maxHeartbeats 4000000 in
set_option maxRecDepth 100000 in
theorem t_b_X4_set_22 {K : Cx} {fr : Bool} {out : (Int32 × MH)} (O : Ok K yX4_set.cls cX4_set 5 (rmm 2 47 0 0)) (Z : Out K (some .int) fr (some (.int out.1)) out.2) (h : MH) (x0 : Nat) (x1 : Int32) (x2 : Int32) (x3 : Int32) (hf : b_X4_set_22 h x0 x1 x2 x3 = some out) : EE K (fr, 0, 0) 22 [some (.ref x0), some (.int x1), some (.int x2), some (.int x3), none] [] h := by
  unfold b_X4_set_22 at hf
  refine E_iconst (pc := 22) O (0 : Int32) dX4_set_22 (by decide) ?_
  exact t_b_X4_set_23 O Z h x0 x1 x2 x3 (0 : Int32) hf
set_option maxHeartbeats 4000000 in
set_option maxRecDepth 100000 in
theorem t_X4_set {g : Gx} {fr : Bool} {h : MH} {x0 x1 x2 x3} {out : (Int32 × MH)} (hf : f_X4_set h x0 x1 x2 x3 = some out) : MM g yX4_set cX4_set 5 (some .int) 2 47 0 0 fr fr [.ref x0, .int x1, .int x2, .int x3] h (some (.int out.1)) out.2 := by
  unfold f_X4_set at hf
  refine MM_of (L := [some (.ref x0), some (.int x1), some (.int x2), some (.int x3), none]) (by decide) (Nat.le_of_ble_eq_true rfl) rfl (fun K hK O Z hn => ?_)
  refine E_aload_n (pc := 0) O 0 dX4_set_0 rfl rfl ?_
  refine E_iload_n (pc := 1) O 1 dX4_set_1 rfl rfl ?_
  refine E_callV_iP (pc := 2) (S := []) O [.int x1] CV_RailSequenceModel_117 rfl (fun r e => t_X4_isRail e) dX4_set_2 hf rfl ⟨(Nat.le_of_ble_eq_true rfl), (Nat.le_of_ble_eq_true rfl)⟩ ⟨(Nat.le_of_ble_eq_true rfl), (Nat.le_of_ble_eq_true rfl)⟩ (Nat.le_of_ble_eq_true rfl) (fun v5 hf => ?_)
  refine E_if_eq (pc := 5) O 22 dX4_set_5 (by decide) hf (fun hf => ?_) (fun hf => ?_)
  · exact t_b_X4_set_22 O Z h x0 x1 x2 x3 hf
  · refine E_iload_n (pc := 8) O 2 dX4_set_8 rfl rfl ?_
    refine E_iconst (pc := 9) O (0 : Int32) dX4_set_9 (by decide) ?_
    refine E_bipush (pc := 10) O (6 : Int32) dX4_set_10 (by decide) ?_
    refine E_callS_iP (pc := 12) (S := []) O [.int x2, .int (0 : Int32), .int (6 : Int32)] CS_RailSequenceModel_32 (fun r e => t_X4_within e) dX4_set_12 hf rfl ⟨(Nat.le_of_ble_eq_true rfl), (Nat.le_of_ble_eq_true rfl)⟩ ⟨(Nat.le_of_ble_eq_true rfl), (Nat.le_of_ble_eq_true rfl)⟩ (Nat.le_of_ble_eq_true rfl) (fun v6 hf => ?_)
    refine E_if_eq (pc := 15) O 22 dX4_set_15 (by decide) hf (fun hf => ?_) (fun hf => ?_)
    · exact t_b_X4_set_22 O Z h x0 x1 x2 x3 hf
    · refine E_iconst (pc := 18) O (1 : Int32) dX4_set_18 (by decide) ?_
      refine E_goto (pc := 19) O 23 dX4_set_19 (by decide) ?_
      exact t_b_X4_set_23 O Z h x0 x1 x2 x3 (1 : Int32) hf
set_option maxHeartbeats 4000000 in
set_option maxRecDepth 100000 in
theorem t_b_X4_setNeeds_87 {K : Cx} {fr : Bool} {out : (Int32 × MH)} (O : Ok K yX4_setNeeds.cls cX4_setNeeds 4 (rmm 2 47 0 0)) (Z : Out K (some .int) fr (some (.int out.1)) out.2) (h : MH) (s0 : Int32) (hf : b_X4_setNeeds_87 h s0 = some out) : EE K (fr, 0, 0) 87 [none, none, none, none] [.int s0] h := by
  unfold b_X4_setNeeds_87 at hf
  exact E_iret (pc := 87) O Z hf ⟨(Nat.le_of_ble_eq_true rfl), (Nat.le_of_ble_eq_true rfl)⟩ dX4_setNeeds_87
set_option maxHeartbeats 4000000 in
set_option maxRecDepth 100000 in
theorem t_b_X4_setNeeds_65 {K : Cx} {fr : Bool} {out : (Int32 × MH)} (O : Ok K yX4_setNeeds.cls cX4_setNeeds 4 (rmm 2 47 0 0)) (Z : Out K (some .int) fr (some (.int out.1)) out.2) (h : MH) (x0 : Nat) (x1 : Int32) (x2 : Int32) (s0 : Nat) (s1 : Int32) (hf : b_X4_setNeeds_65 h x0 x1 x2 s0 s1 = some out) : EE K (fr, 0, 0) 65 [some (.ref x0), some (.int x1), some (.int x2), none] [.int s1, .ref s0] h := by
  unfold b_X4_setNeeds_65 at hf
  refine E_put (pc := 65) O FN_RailSequenceModel_28 rfl rfl dX4_setNeeds_65 hf (fun h1 hf => ?_)
  refine E_aload_n (pc := 68) O 0 dX4_setNeeds_68 rfl rfl ?_
  refine E_getI (pc := 69) O FL_RailSequenceModel_28 dX4_setNeeds_69 hf (fun v2 hf => ?_)
  refine E_if_le (pc := 72) O 79 dX4_setNeeds_72 (by decide) hf (fun hf => ?_) (fun hf => ?_)
  · refine E_aload_n (pc := 79) O 0 dX4_setNeeds_79 rfl rfl ?_
    refine E_iload_n (pc := 80) O 1 dX4_setNeeds_80 rfl rfl ?_
    refine E_bipush (pc := 81) O (7 : Int32) dX4_setNeeds_81 (by decide) ?_
    refine E_iload_n (pc := 83) O 2 dX4_setNeeds_83 rfl rfl ?_
    refine E_callV_i (pc := 84) (S := []) O [.int x1, .int (7 : Int32), .int x2] CV_RailSequenceModel_120 rfl (fun r e => t_X4_replaced e) dX4_setNeeds_84 hf rfl ⟨(Nat.le_of_ble_eq_true rfl), (Nat.le_of_ble_eq_true rfl)⟩ ⟨(Nat.le_of_ble_eq_true rfl), (Nat.le_of_ble_eq_true rfl)⟩ (Nat.le_of_ble_eq_true rfl) (fun p3 hf => ?_)
    exact E_sub (L' := [none, none, none, none]) True.intro (t_b_X4_setNeeds_87 O Z p3.2 p3.1 hf)
  · refine E_iconst (pc := 75) O (0 : Int32) dX4_setNeeds_75 (by decide) ?_
    refine E_goto (pc := 76) O 87 dX4_setNeeds_76 (by decide) ?_
    exact E_sub (L' := [none, none, none, none]) True.intro (t_b_X4_setNeeds_87 O Z h1 (0 : Int32) hf)
set_option maxHeartbeats 4000000 in
set_option maxRecDepth 100000 in
theorem t_b_X4_setNeeds_41 {K : Cx} {fr : Bool} {out : (Int32 × MH)} (O : Ok K yX4_setNeeds.cls cX4_setNeeds 4 (rmm 2 47 0 0)) (Z : Out K (some .int) fr (some (.int out.1)) out.2) (h : MH) (x0 : Nat) (x1 : Int32) (x2 : Int32) (s0 : Int32) (hf : b_X4_setNeeds_41 h x0 x1 x2 s0 = some out) : EE K (fr, 0, 0) 41 [some (.ref x0), some (.int x1), some (.int x2), none] [.int s0] h := by
  unfold b_X4_setNeeds_41 at hf
  refine E_istore_n (pc := 41) O 3 [some (.ref x0), some (.int x1), some (.int x2), some (.int s0)] dX4_setNeeds_41 rfl (by decide) rfl rfl ?_
  refine E_aload_n (pc := 42) O 0 dX4_setNeeds_42 rfl rfl ?_
  refine E_aload_n (pc := 43) O 0 dX4_setNeeds_43 rfl rfl ?_
  refine E_iload_n (pc := 44) O 2 dX4_setNeeds_44 rfl rfl ?_
  refine E_iload_n (pc := 45) O 1 dX4_setNeeds_45 rfl rfl ?_
  refine E_callV_iP (pc := 46) (S := [.ref x0]) O [.int x2, .int x1] CV_RailSequenceModel_107 rfl (fun r e => t_X4_isMask e) dX4_setNeeds_46 hf rfl ⟨(Nat.le_of_ble_eq_true rfl), (Nat.le_of_ble_eq_true rfl)⟩ ⟨(Nat.le_of_ble_eq_true rfl), (Nat.le_of_ble_eq_true rfl)⟩ (Nat.le_of_ble_eq_true rfl) (fun v4 hf => ?_)
  refine E_if_ne (pc := 49) O 56 dX4_setNeeds_49 (by decide) hf (fun hf => ?_) (fun hf => ?_)
  · refine E_iload_n (pc := 56) O 3 dX4_setNeeds_56 rfl rfl ?_
    refine E_if_eq (pc := 57) O 64 dX4_setNeeds_57 (by decide) hf (fun hf => ?_) (fun hf => ?_)
    · refine E_iconst (pc := 64) O (3 : Int32) dX4_setNeeds_64 (by decide) ?_
      exact E_sub (L' := [some (.ref x0), some (.int x1), some (.int x2), none]) (And.intro rfl (And.intro rfl (And.intro rfl True.intro))) (t_b_X4_setNeeds_65 O Z h x0 x1 x2 x0 (3 : Int32) hf)
    · refine E_iconst (pc := 60) O (0 : Int32) dX4_setNeeds_60 (by decide) ?_
      refine E_goto (pc := 61) O 65 dX4_setNeeds_61 (by decide) ?_
      exact E_sub (L' := [some (.ref x0), some (.int x1), some (.int x2), none]) (And.intro rfl (And.intro rfl (And.intro rfl True.intro))) (t_b_X4_setNeeds_65 O Z h x0 x1 x2 x0 (0 : Int32) hf)
  · refine E_iconst (pc := 52) O (2 : Int32) dX4_setNeeds_52 (by decide) ?_
    refine E_goto (pc := 53) O 65 dX4_setNeeds_53 (by decide) ?_
    exact E_sub (L' := [some (.ref x0), some (.int x1), some (.int x2), none]) (And.intro rfl (And.intro rfl (And.intro rfl True.intro))) (t_b_X4_setNeeds_65 O Z h x0 x1 x2 x0 (2 : Int32) hf)
set_option maxHeartbeats 4000000 in
set_option maxRecDepth 100000 in
theorem t_b_X4_setNeeds_36 {K : Cx} {fr : Bool} {out : (Int32 × MH)} (O : Ok K yX4_setNeeds.cls cX4_setNeeds 4 (rmm 2 47 0 0)) (Z : Out K (some .int) fr (some (.int out.1)) out.2) (h : MH) (x0 : Nat) (x1 : Int32) (x2 : Int32) (hf : b_X4_setNeeds_36 h x0 x1 x2 = some out) : EE K (fr, 0, 0) 36 [some (.ref x0), some (.int x1), some (.int x2), none] [] h := by
  unfold b_X4_setNeeds_36 at hf
  refine E_iconst (pc := 36) O (1 : Int32) dX4_setNeeds_36 (by decide) ?_
  refine E_goto (pc := 37) O 41 dX4_setNeeds_37 (by decide) ?_
  exact t_b_X4_setNeeds_41 O Z h x0 x1 x2 (1 : Int32) hf
set_option maxHeartbeats 4000000 in
set_option maxRecDepth 100000 in
theorem t_X4_setNeeds {g : Gx} {fr : Bool} {h : MH} {x0 x1 x2} {out : (Int32 × MH)} (hf : f_X4_setNeeds h x0 x1 x2 = some out) : MM g yX4_setNeeds cX4_setNeeds 4 (some .int) 2 47 0 0 fr fr [.ref x0, .int x1, .int x2] h (some (.int out.1)) out.2 := by
  unfold f_X4_setNeeds at hf
  refine MM_of (L := [some (.ref x0), some (.int x1), some (.int x2), none]) (by decide) (Nat.le_of_ble_eq_true rfl) rfl (fun K hK O Z hn => ?_)
  refine E_aload_n (pc := 0) O 0 dX4_setNeeds_0 rfl rfl ?_
  refine E_iload_n (pc := 1) O 1 dX4_setNeeds_1 rfl rfl ?_
  refine E_callV_iP (pc := 2) (S := []) O [.int x1] CV_RailSequenceModel_117 rfl (fun r e => t_X4_isRail e) dX4_setNeeds_2 hf rfl ⟨(Nat.le_of_ble_eq_true rfl), (Nat.le_of_ble_eq_true rfl)⟩ ⟨(Nat.le_of_ble_eq_true rfl), (Nat.le_of_ble_eq_true rfl)⟩ (Nat.le_of_ble_eq_true rfl) (fun v5 hf => ?_)
  refine E_if_ne (pc := 5) O 15 dX4_setNeeds_5 (by decide) hf (fun hf => ?_) (fun hf => ?_)
  · refine E_aload_n (pc := 15) O 0 dX4_setNeeds_15 rfl rfl ?_
    refine E_iload_n (pc := 16) O 1 dX4_setNeeds_16 rfl rfl ?_
    refine E_bipush (pc := 17) O (9 : Int32) dX4_setNeeds_17 (by decide) ?_
    refine E_callV_iP (pc := 19) (S := []) O [.int x1, .int (9 : Int32)] CV_RailSequenceModel_36 rfl (fun r e => t_X4_of e) dX4_setNeeds_19 hf rfl ⟨(Nat.le_of_ble_eq_true rfl), (Nat.le_of_ble_eq_true rfl)⟩ ⟨(Nat.le_of_ble_eq_true rfl), (Nat.le_of_ble_eq_true rfl)⟩ (Nat.le_of_ble_eq_true rfl) (fun v6 hf => ?_)
    refine E_if_eq (pc := 22) O 36 dX4_setNeeds_22 (by decide) hf (fun hf => ?_) (fun hf => ?_)
    · exact t_b_X4_setNeeds_36 O Z h x0 x1 x2 hf
    · refine E_aload_n (pc := 25) O 0 dX4_setNeeds_25 rfl rfl ?_
      refine E_iload_n (pc := 26) O 1 dX4_setNeeds_26 rfl rfl ?_
      refine E_bipush (pc := 27) O (9 : Int32) dX4_setNeeds_27 (by decide) ?_
      refine E_callV_iP (pc := 29) (S := []) O [.int x1, .int (9 : Int32)] CV_RailSequenceModel_36 rfl (fun r e => t_X4_of e) dX4_setNeeds_29 hf rfl ⟨(Nat.le_of_ble_eq_true rfl), (Nat.le_of_ble_eq_true rfl)⟩ ⟨(Nat.le_of_ble_eq_true rfl), (Nat.le_of_ble_eq_true rfl)⟩ (Nat.le_of_ble_eq_true rfl) (fun v7 hf => ?_)
      refine E_iconst (pc := 32) O (5 : Int32) dX4_setNeeds_32 (by decide) ?_
      refine E_icmp_ne (pc := 33) O 40 dX4_setNeeds_33 (by decide) hf (fun hf => ?_) (fun hf => ?_)
      · refine E_iconst (pc := 40) O (0 : Int32) dX4_setNeeds_40 (by decide) ?_
        exact t_b_X4_setNeeds_41 O Z h x0 x1 x2 (0 : Int32) hf
      · exact t_b_X4_setNeeds_36 O Z h x0 x1 x2 hf
  · refine E_aload_n (pc := 8) O 0 dX4_setNeeds_8 rfl rfl ?_
    refine E_iconst (pc := 9) O (1 : Int32) dX4_setNeeds_9 (by decide) ?_
    refine E_put (pc := 10) O FN_RailSequenceModel_28 rfl rfl dX4_setNeeds_10 hf (fun h8 hf => ?_)
    refine E_iconst (pc := 13) O (0 : Int32) dX4_setNeeds_13 (by decide) ?_
    exact E_iret (pc := 14) O Z hf ⟨(Nat.le_of_ble_eq_true rfl), (Nat.le_of_ble_eq_true rfl)⟩ dX4_setNeeds_14
set_option maxHeartbeats 4000000 in
set_option maxRecDepth 100000 in
theorem t_b_X4_setResidue_17 {K : Cx} {fr : Bool} {out : (Int32 × MH)} (O : Ok K yX4_setResidue.cls cX4_setResidue 3 (rmm 1 22 0 0)) (Z : Out K (some .int) fr (some (.int out.1)) out.2) (h : MH) (x0 : Nat) (x1 : Int32) (s0 : Nat) (s1 : Int32) (hf : b_X4_setResidue_17 h x0 x1 s0 s1 = some out) : EE K (fr, 0, 0) 17 [some (.ref x0), some (.int x1), none] [.int s1, .ref s0] h := by
  unfold b_X4_setResidue_17 at hf
  refine E_put (pc := 17) O FN_RailSequenceModel_28 rfl rfl dX4_setResidue_17 hf (fun h1 hf => ?_)
  refine E_aload_n (pc := 20) O 0 dX4_setResidue_20 rfl rfl ?_
  refine E_getI (pc := 21) O FL_RailSequenceModel_28 dX4_setResidue_21 hf (fun v2 hf => ?_)
  refine E_if_le (pc := 24) O 29 dX4_setResidue_24 (by decide) hf (fun hf => ?_) (fun hf => ?_)
  · refine E_aload_n (pc := 29) O 0 dX4_setResidue_29 rfl rfl ?_
    refine E_callV_v (pc := 30) (S := []) O [] CV_RailSequenceModel_110 rfl (fun r e => t_X4_save e) dX4_setResidue_30 hf rfl ⟨(Nat.le_of_ble_eq_true rfl), (Nat.le_of_ble_eq_true rfl)⟩ ⟨(Nat.le_of_ble_eq_true rfl), (Nat.le_of_ble_eq_true rfl)⟩ (Nat.le_of_ble_eq_true rfl) (fun h3 hf => ?_)
    refine E_aload_n (pc := 33) O 0 dX4_setResidue_33 rfl rfl ?_
    refine E_getR (pc := 34) O FL_RailSequenceModel_7 dX4_setResidue_34 hf (fun v4 hf => ?_)
    refine E_iconst (pc := 37) O (1 : Int32) dX4_setResidue_37 (by decide) ?_
    refine E_iaload (pc := 38) O dX4_setResidue_38 hf (fun v5 hf => ?_)
    refine E_istore_n (pc := 39) O 2 [some (.ref x0), some (.int x1), some (.int v5)] dX4_setResidue_39 rfl (by decide) rfl rfl ?_
    refine E_aload_n (pc := 40) O 0 dX4_setResidue_40 rfl rfl ?_
    refine E_getR (pc := 41) O FL_RailSequenceModel_7 dX4_setResidue_41 hf (fun v6 hf => ?_)
    refine E_iconst (pc := 44) O (1 : Int32) dX4_setResidue_44 (by decide) ?_
    refine E_iload_n (pc := 45) O 1 dX4_setResidue_45 rfl rfl ?_
    refine E_iastore (pc := 46) O dX4_setResidue_46 hf (fun h7 hf => ?_)
    refine E_iload_n (pc := 47) O 2 dX4_setResidue_47 rfl rfl ?_
    exact E_iret (pc := 48) O Z hf ⟨(Nat.le_of_ble_eq_true rfl), (Nat.le_of_ble_eq_true rfl)⟩ dX4_setResidue_48
  · refine E_iconst (pc := 27) O (0 : Int32) dX4_setResidue_27 (by decide) ?_
    exact E_iret (pc := 28) O Z hf ⟨(Nat.le_of_ble_eq_true rfl), (Nat.le_of_ble_eq_true rfl)⟩ dX4_setResidue_28
set_option maxHeartbeats 4000000 in
set_option maxRecDepth 100000 in
theorem t_X4_setResidue {g : Gx} {fr : Bool} {h : MH} {x0 x1} {out : (Int32 × MH)} (hf : f_X4_setResidue h x0 x1 = some out) : MM g yX4_setResidue cX4_setResidue 3 (some .int) 1 22 0 0 fr fr [.ref x0, .int x1] h (some (.int out.1)) out.2 := by
  unfold f_X4_setResidue at hf
  refine MM_of (L := [some (.ref x0), some (.int x1), none]) (by decide) (Nat.le_of_ble_eq_true rfl) rfl (fun K hK O Z hn => ?_)
  refine E_aload_n (pc := 0) O 0 dX4_setResidue_0 rfl rfl ?_
  refine E_iload_n (pc := 1) O 1 dX4_setResidue_1 rfl rfl ?_
  refine E_iconst (pc := 2) O (0 : Int32) dX4_setResidue_2 (by decide) ?_
  refine E_sipush (pc := 3) O (500 : Int32) dX4_setResidue_3 (by decide) ?_
  refine E_callS_iP (pc := 6) (S := [.ref x0]) O [.int x1, .int (0 : Int32), .int (500 : Int32)] CS_RailSequenceModel_32 (fun r e => t_X4_within e) dX4_setResidue_6 hf rfl ⟨(Nat.le_of_ble_eq_true rfl), (Nat.le_of_ble_eq_true rfl)⟩ ⟨(Nat.le_of_ble_eq_true rfl), (Nat.le_of_ble_eq_true rfl)⟩ (Nat.le_of_ble_eq_true rfl) (fun v8 hf => ?_)
  refine E_if_eq (pc := 9) O 16 dX4_setResidue_9 (by decide) hf (fun hf => ?_) (fun hf => ?_)
  · refine E_iconst (pc := 16) O (1 : Int32) dX4_setResidue_16 (by decide) ?_
    exact t_b_X4_setResidue_17 O Z h x0 x1 x0 (1 : Int32) hf
  · refine E_iconst (pc := 12) O (0 : Int32) dX4_setResidue_12 (by decide) ?_
    refine E_goto (pc := 13) O 17 dX4_setResidue_13 (by decide) ?_
    exact t_b_X4_setResidue_17 O Z h x0 x1 x0 (0 : Int32) hf
set_option maxHeartbeats 4000000 in
set_option maxRecDepth 100000 in
theorem t_b_X4_maskOf_36 {K : Cx} {fr : Bool} {out : Int32} {h : MH} (O : Ok K yX4_maskOf.cls cX4_maskOf 5 (rmm 1 22 0 0)) (Z : Out K (some .int) fr (some (.int out)) h) (rec5 : Nat → Int32 → Int32 → Int32 → Int32 → Option Int32) (hr5 : ∀ (x0 : Nat) (x1 : Int32) (x2 : Int32) (x3 : Int32) (x4 : Int32), rec5 x0 x1 x2 x3 x4 = some out → EE K (fr, 0, 0) 5 [some (.ref x0), some (.int x1), some (.int x2), some (.int x3), some (.int x4)] [] h) (x0 : Nat) (x1 : Int32) (x2 : Int32) (x4 : Int32) (s0 : Int32) (s1 : Int32) (hf : b_X4_maskOf_36 h rec5 x0 x1 x2 x4 s0 s1 = some out) : EE K (fr, 0, 0) 36 [some (.ref x0), some (.int x1), some (.int x2), none, some (.int x4)] [.int s1, .int s0] h := by
  unfold b_X4_maskOf_36 at hf
  refine E_ior (pc := 36) O dX4_maskOf_36 ?_
  obtain ⟨v1, ev1, hf⟩ := ob hf
  have ev1 := os ev1
  rw [ev1]
  refine E_istore_n (pc := 37) O 3 [some (.ref x0), some (.int x1), some (.int x2), some (.int v1), some (.int x4)] dX4_maskOf_37 rfl (by decide) rfl rfl ?_
  refine E_iinc (pc := 38) O (1 : Int32) [some (.ref x0), some (.int x1), some (.int x2), some (.int v1), some (.int (x4 + (1 : Int32)))] dX4_maskOf_38 rfl (by decide) rfl (by decide) rfl ?_
  refine E_goto (pc := 41) O 5 dX4_maskOf_41 (by decide) ?_
  exact hr5 x0 x1 x2 v1 (x4 + (1 : Int32)) hf
set_option maxHeartbeats 4000000 in
set_option maxRecDepth 100000 in
theorem t_b_X4_maskOf_5 {K : Cx} {fr : Bool} {out : Int32} {h : MH} (O : Ok K yX4_maskOf.cls cX4_maskOf 5 (rmm 1 22 0 0)) (Z : Out K (some .int) fr (some (.int out)) h) (rec5 : Nat → Int32 → Int32 → Int32 → Int32 → Option Int32) (hr5 : ∀ (x0 : Nat) (x1 : Int32) (x2 : Int32) (x3 : Int32) (x4 : Int32), rec5 x0 x1 x2 x3 x4 = some out → EE K (fr, 0, 0) 5 [some (.ref x0), some (.int x1), some (.int x2), some (.int x3), some (.int x4)] [] h) (x0 : Nat) (x1 : Int32) (x2 : Int32) (x3 : Int32) (x4 : Int32) (hf : b_X4_maskOf_5 h rec5 x0 x1 x2 x3 x4 = some out) : EE K (fr, 0, 0) 5 [some (.ref x0), some (.int x1), some (.int x2), some (.int x3), some (.int x4)] [] h := by
  unfold b_X4_maskOf_5 at hf
  refine E_iload (pc := 5) O dX4_maskOf_5 rfl ?_
  refine E_aload_n (pc := 7) O 0 dX4_maskOf_7 rfl rfl ?_
  refine E_getR (pc := 8) O FL_RailSequenceModel_7 dX4_maskOf_8 hf (fun v2 hf => ?_)
  refine E_iconst (pc := 11) O (0 : Int32) dX4_maskOf_11 (by decide) ?_
  refine E_iaload (pc := 12) O dX4_maskOf_12 hf (fun v3 hf => ?_)
  refine E_icmp_ge (pc := 13) O 44 dX4_maskOf_13 (by decide) hf (fun hf => ?_) (fun hf => ?_)
  · refine E_iload_n (pc := 44) O 3 dX4_maskOf_44 rfl rfl ?_
    exact E_iretP (pc := 45) O Z hf ⟨(Nat.le_of_ble_eq_true rfl), (Nat.le_of_ble_eq_true rfl)⟩ dX4_maskOf_45
  · refine E_iload_n (pc := 16) O 3 dX4_maskOf_16 rfl rfl ?_
    refine E_aload_n (pc := 17) O 0 dX4_maskOf_17 rfl rfl ?_
    refine E_iload (pc := 18) O dX4_maskOf_18 rfl ?_
    refine E_iload_n (pc := 20) O 1 dX4_maskOf_20 rfl rfl ?_
    refine E_callV_iP (pc := 21) (S := [.int x3]) O [.int x4, .int x1] CV_RailSequenceModel_36 rfl (fun r e => t_X4_of e) dX4_maskOf_21 hf rfl ⟨(Nat.le_of_ble_eq_true rfl), (Nat.le_of_ble_eq_true rfl)⟩ ⟨(Nat.le_of_ble_eq_true rfl), (Nat.le_of_ble_eq_true rfl)⟩ (Nat.le_of_ble_eq_true rfl) (fun v4 hf => ?_)
    refine E_iload_n (pc := 24) O 2 dX4_maskOf_24 rfl rfl ?_
    refine E_icmp_ne (pc := 25) O 35 dX4_maskOf_25 (by decide) hf (fun hf => ?_) (fun hf => ?_)
    · refine E_iconst (pc := 35) O (0 : Int32) dX4_maskOf_35 (by decide) ?_
      exact E_sub (L' := [some (.ref x0), some (.int x1), some (.int x2), none, some (.int x4)]) (And.intro rfl (And.intro rfl (And.intro rfl (And.intro rfl True.intro)))) (t_b_X4_maskOf_36 O Z _ hr5 x0 x1 x2 x4 x3 (0 : Int32) hf)
    · refine E_iconst (pc := 28) O (1 : Int32) dX4_maskOf_28 (by decide) ?_
      refine E_iload (pc := 29) O dX4_maskOf_29 rfl ?_
      refine E_ishl (pc := 31) O dX4_maskOf_31 ?_
      refine E_goto (pc := 32) O 36 dX4_maskOf_32 (by decide) ?_
      exact E_sub (L' := [some (.ref x0), some (.int x1), some (.int x2), none, some (.int x4)]) (And.intro rfl (And.intro rfl (And.intro rfl (And.intro rfl True.intro)))) (t_b_X4_maskOf_36 O Z _ hr5 x0 x1 x2 x4 x3 ((1 : Int32) <<< (x4 &&& 31)) hf)
theorem t_f_X4_maskOf_5 {K : Cx} {fr : Bool} {out : Int32} {h : MH} (O : Ok K yX4_maskOf.cls cX4_maskOf 5 (rmm 1 22 0 0)) (Z : Out K (some .int) fr (some (.int out)) h) : ∀ (n : Nat) (x0 : Nat) (x1 : Int32) (x2 : Int32) (x3 : Int32) (x4 : Int32), f_X4_maskOf_5 h n x0 x1 x2 x3 x4 = some out → EE K (fr, 0, 0) 5 [some (.ref x0), some (.int x1), some (.int x2), some (.int x3), some (.int x4)] [] h := by
  intro n
  induction n with
  | zero => intro x0 x1 x2 x3 x4 hf; cases hf
  | succ n ih => intro x0 x1 x2 x3 x4 hf; exact t_b_X4_maskOf_5 O Z _ ih x0 x1 x2 x3 x4 hf
set_option maxHeartbeats 4000000 in
set_option maxRecDepth 100000 in
theorem t_X4_maskOf {g : Gx} {fr : Bool} {h : MH} {x0 x1 x2} {out : Int32} (hf : f_X4_maskOf h x0 x1 x2 = some out) : MM g yX4_maskOf cX4_maskOf 5 (some .int) 1 22 0 0 fr fr [.ref x0, .int x1, .int x2] h (some (.int out)) h := by
  unfold f_X4_maskOf at hf
  refine MM_of (L := [some (.ref x0), some (.int x1), some (.int x2), none, none]) (by decide) (Nat.le_of_ble_eq_true rfl) rfl (fun K hK O Z hn => ?_)
  refine E_iconst (pc := 0) O (0 : Int32) dX4_maskOf_0 (by decide) ?_
  refine E_istore_n (pc := 1) O 3 [some (.ref x0), some (.int x1), some (.int x2), some (.int (0 : Int32)), none] dX4_maskOf_1 rfl (by decide) rfl rfl ?_
  refine E_iconst (pc := 2) O (0 : Int32) dX4_maskOf_2 (by decide) ?_
  refine E_istore (pc := 3) O [some (.ref x0), some (.int x1), some (.int x2), some (.int (0 : Int32)), some (.int (0 : Int32))] dX4_maskOf_3 (by decide) rfl rfl ?_
  exact t_f_X4_maskOf_5 O Z FU x0 x1 x2 (0 : Int32) (0 : Int32) hf
set_option maxHeartbeats 4000000 in
set_option maxRecDepth 100000 in
theorem t_b_X4_on_96 {K : Cx} {fr : Bool} {out : (Int32 × MH)} (O : Ok K yX4_on.cls cX4_on 4 (rmm 2 46 0 0)) (Z : Out K (some .int) fr (some (.int out.1)) out.2) (rec47 : MH → Nat → Int32 → Int32 → Option (Int32 × MH)) (hr47 : ∀ (h : MH) (x0 : Nat) (x2 : Int32) (x3 : Int32), rec47 h x0 x2 x3 = some out → EE K (fr, 0, 0) 47 [some (.ref x0), none, some (.int x2), some (.int x3)] [] h) (h : MH) (x0 : Nat) (x2 : Int32) (x3 : Int32) (s0 : Nat) (s1 : Int32) (s2 : Int32) (s3 : Int32) (hf : b_X4_on_96 rec47 h x0 x2 x3 s0 s1 s2 s3 = some out) : EE K (fr, 0, 0) 96 [some (.ref x0), none, some (.int x2), some (.int x3)] [.int s3, .int s2, .int s1, .ref s0] h := by
  unfold b_X4_on_96 at hf
  refine E_callV_v (pc := 96) (S := []) O [.int s1, .int s2, .int s3] CV_RailSequenceModel_40 rfl (fun r e => t_X4_lay e) dX4_on_96 hf rfl ⟨(Nat.le_of_ble_eq_true rfl), (Nat.le_of_ble_eq_true rfl)⟩ ⟨(Nat.le_of_ble_eq_true rfl), (Nat.le_of_ble_eq_true rfl)⟩ (Nat.le_of_ble_eq_true rfl) (fun h1 hf => ?_)
  refine E_iinc (pc := 99) O (-1 : Int32) [some (.ref x0), none, some (.int x2), some (.int (x3 + (-1 : Int32)))] dX4_on_99 rfl (by decide) rfl (by decide) rfl ?_
  refine E_goto (pc := 102) O 47 dX4_on_102 (by decide) ?_
  exact hr47 h1 x0 x2 (x3 + (-1 : Int32)) hf
set_option maxHeartbeats 4000000 in
set_option maxRecDepth 100000 in
theorem t_b_X4_on_71 {K : Cx} {fr : Bool} {out : (Int32 × MH)} (O : Ok K yX4_on.cls cX4_on 4 (rmm 2 46 0 0)) (Z : Out K (some .int) fr (some (.int out.1)) out.2) (rec47 : MH → Nat → Int32 → Int32 → Option (Int32 × MH)) (hr47 : ∀ (h : MH) (x0 : Nat) (x2 : Int32) (x3 : Int32), rec47 h x0 x2 x3 = some out → EE K (fr, 0, 0) 47 [some (.ref x0), none, some (.int x2), some (.int x3)] [] h) (h : MH) (x0 : Nat) (x3 : Int32) (s0 : Int32) (s1 : Int32) (hf : b_X4_on_71 rec47 h x0 x3 s0 s1 = some out) : EE K (fr, 0, 0) 71 [some (.ref x0), none, none, some (.int x3)] [.int s1, .int s0] h := by
  unfold b_X4_on_71 at hf
  refine E_ior (pc := 71) O dX4_on_71 ?_
  obtain ⟨v2, ev2, hf⟩ := ob hf
  have ev2 := os ev2
  rw [ev2]
  refine E_istore_n (pc := 72) O 2 [some (.ref x0), none, some (.int v2), some (.int x3)] dX4_on_72 rfl (by decide) rfl rfl ?_
  refine E_aload_n (pc := 73) O 0 dX4_on_73 rfl rfl ?_
  refine E_iload_n (pc := 74) O 3 dX4_on_74 rfl rfl ?_
  refine E_bipush (pc := 75) O (8 : Int32) dX4_on_75 (by decide) ?_
  refine E_iload_n (pc := 77) O 2 dX4_on_77 rfl rfl ?_
  refine E_iload_n (pc := 78) O 3 dX4_on_78 rfl rfl ?_
  refine E_callS_iP (pc := 79) (S := [.int (8 : Int32), .int x3, .ref x0]) O [.int v2, .int x3] CS_RailSequenceModel_61 (fun r e => t_X4_has e) dX4_on_79 hf rfl ⟨(Nat.le_of_ble_eq_true rfl), (Nat.le_of_ble_eq_true rfl)⟩ ⟨(Nat.le_of_ble_eq_true rfl), (Nat.le_of_ble_eq_true rfl)⟩ (Nat.le_of_ble_eq_true rfl) (fun v3 hf => ?_)
  refine E_if_eq (pc := 82) O 89 dX4_on_82 (by decide) hf (fun hf => ?_) (fun hf => ?_)
  · refine E_aload_n (pc := 89) O 0 dX4_on_89 rfl rfl ?_
    refine E_iload_n (pc := 90) O 3 dX4_on_90 rfl rfl ?_
    refine E_bipush (pc := 91) O (8 : Int32) dX4_on_91 (by decide) ?_
    refine E_callV_iP (pc := 93) (S := [.int (8 : Int32), .int x3, .ref x0]) O [.int x3, .int (8 : Int32)] CV_RailSequenceModel_36 rfl (fun r e => t_X4_of e) dX4_on_93 hf rfl ⟨(Nat.le_of_ble_eq_true rfl), (Nat.le_of_ble_eq_true rfl)⟩ ⟨(Nat.le_of_ble_eq_true rfl), (Nat.le_of_ble_eq_true rfl)⟩ (Nat.le_of_ble_eq_true rfl) (fun v4 hf => ?_)
    exact t_b_X4_on_96 O Z _ hr47 h x0 v2 x3 x0 x3 (8 : Int32) v4 hf
  · refine E_iconst (pc := 85) O (1 : Int32) dX4_on_85 (by decide) ?_
    refine E_goto (pc := 86) O 96 dX4_on_86 (by decide) ?_
    exact t_b_X4_on_96 O Z _ hr47 h x0 v2 x3 x0 x3 (8 : Int32) (1 : Int32) hf
set_option maxHeartbeats 4000000 in
set_option maxRecDepth 100000 in
theorem t_b_X4_on_47 {K : Cx} {fr : Bool} {out : (Int32 × MH)} (O : Ok K yX4_on.cls cX4_on 4 (rmm 2 46 0 0)) (Z : Out K (some .int) fr (some (.int out.1)) out.2) (rec47 : MH → Nat → Int32 → Int32 → Option (Int32 × MH)) (hr47 : ∀ (h : MH) (x0 : Nat) (x2 : Int32) (x3 : Int32), rec47 h x0 x2 x3 = some out → EE K (fr, 0, 0) 47 [some (.ref x0), none, some (.int x2), some (.int x3)] [] h) (h : MH) (x0 : Nat) (x2 : Int32) (x3 : Int32) (hf : b_X4_on_47 rec47 h x0 x2 x3 = some out) : EE K (fr, 0, 0) 47 [some (.ref x0), none, some (.int x2), some (.int x3)] [] h := by
  unfold b_X4_on_47 at hf
  refine E_iload_n (pc := 47) O 3 dX4_on_47 rfl rfl ?_
  refine E_if_lt (pc := 48) O 105 dX4_on_48 (by decide) hf (fun hf => ?_) (fun hf => ?_)
  · refine E_aload_n (pc := 105) O 0 dX4_on_105 rfl rfl ?_
    refine E_bipush (pc := 106) O (8 : Int32) dX4_on_106 (by decide) ?_
    refine E_iconst (pc := 108) O (1 : Int32) dX4_on_108 (by decide) ?_
    refine E_callV_iP (pc := 109) (S := []) O [.int (8 : Int32), .int (1 : Int32)] CV_RailSequenceModel_123 rfl (fun r e => t_X4_maskOf e) dX4_on_109 hf rfl ⟨(Nat.le_of_ble_eq_true rfl), (Nat.le_of_ble_eq_true rfl)⟩ ⟨(Nat.le_of_ble_eq_true rfl), (Nat.le_of_ble_eq_true rfl)⟩ (Nat.le_of_ble_eq_true rfl) (fun v5 hf => ?_)
    exact E_iret (pc := 112) O Z hf ⟨(Nat.le_of_ble_eq_true rfl), (Nat.le_of_ble_eq_true rfl)⟩ dX4_on_112
  · refine E_iload_n (pc := 51) O 2 dX4_on_51 rfl rfl ?_
    refine E_iload_n (pc := 52) O 2 dX4_on_52 rfl rfl ?_
    refine E_iload_n (pc := 53) O 3 dX4_on_53 rfl rfl ?_
    refine E_callS_iP (pc := 54) (S := [.int x2]) O [.int x2, .int x3] CS_RailSequenceModel_61 (fun r e => t_X4_has e) dX4_on_54 hf rfl ⟨(Nat.le_of_ble_eq_true rfl), (Nat.le_of_ble_eq_true rfl)⟩ ⟨(Nat.le_of_ble_eq_true rfl), (Nat.le_of_ble_eq_true rfl)⟩ (Nat.le_of_ble_eq_true rfl) (fun v6 hf => ?_)
    refine E_if_eq (pc := 57) O 70 dX4_on_57 (by decide) hf (fun hf => ?_) (fun hf => ?_)
    · refine E_iconst (pc := 70) O (0 : Int32) dX4_on_70 (by decide) ?_
      exact E_sub (L' := [some (.ref x0), none, none, some (.int x3)]) (And.intro rfl (And.intro rfl True.intro)) (t_b_X4_on_71 O Z _ hr47 h x0 x3 x2 (0 : Int32) hf)
    · refine E_aload_n (pc := 60) O 0 dX4_on_60 rfl rfl ?_
      refine E_iload_n (pc := 61) O 3 dX4_on_61 rfl rfl ?_
      refine E_bipush (pc := 62) O (7 : Int32) dX4_on_62 (by decide) ?_
      refine E_callV_iP (pc := 64) (S := [.int x2]) O [.int x3, .int (7 : Int32)] CV_RailSequenceModel_36 rfl (fun r e => t_X4_of e) dX4_on_64 hf rfl ⟨(Nat.le_of_ble_eq_true rfl), (Nat.le_of_ble_eq_true rfl)⟩ ⟨(Nat.le_of_ble_eq_true rfl), (Nat.le_of_ble_eq_true rfl)⟩ (Nat.le_of_ble_eq_true rfl) (fun v7 hf => ?_)
      refine E_goto (pc := 67) O 71 dX4_on_67 (by decide) ?_
      exact E_sub (L' := [some (.ref x0), none, none, some (.int x3)]) (And.intro rfl (And.intro rfl True.intro)) (t_b_X4_on_71 O Z _ hr47 h x0 x3 x2 v7 hf)
theorem t_f_X4_on_47 {K : Cx} {fr : Bool} {out : (Int32 × MH)} (O : Ok K yX4_on.cls cX4_on 4 (rmm 2 46 0 0)) (Z : Out K (some .int) fr (some (.int out.1)) out.2) : ∀ (n : Nat) (h : MH) (x0 : Nat) (x2 : Int32) (x3 : Int32), f_X4_on_47 n h x0 x2 x3 = some out → EE K (fr, 0, 0) 47 [some (.ref x0), none, some (.int x2), some (.int x3)] [] h := by
  intro n
  induction n with
  | zero => intro h x0 x2 x3 hf; cases hf
  | succ n ih => intro h x0 x2 x3 hf; exact t_b_X4_on_47 O Z _ ih h x0 x2 x3 hf
set_option maxHeartbeats 4000000 in
set_option maxRecDepth 100000 in
theorem t_b_X4_on_20 {K : Cx} {fr : Bool} {out : (Int32 × MH)} (O : Ok K yX4_on.cls cX4_on 4 (rmm 2 46 0 0)) (Z : Out K (some .int) fr (some (.int out.1)) out.2) (h : MH) (x0 : Nat) (x1 : Int32) (s0 : Nat) (s1 : Int32) (hf : b_X4_on_20 h x0 x1 s0 s1 = some out) : EE K (fr, 0, 0) 20 [some (.ref x0), some (.int x1), none, none] [.int s1, .ref s0] h := by
  unfold b_X4_on_20 at hf
  refine E_put (pc := 20) O FN_RailSequenceModel_28 rfl rfl dX4_on_20 hf (fun h8 hf => ?_)
  refine E_aload_n (pc := 23) O 0 dX4_on_23 rfl rfl ?_
  refine E_getI (pc := 24) O FL_RailSequenceModel_28 dX4_on_24 hf (fun v9 hf => ?_)
  refine E_if_le (pc := 27) O 32 dX4_on_27 (by decide) hf (fun hf => ?_) (fun hf => ?_)
  · refine E_aload_n (pc := 32) O 0 dX4_on_32 rfl rfl ?_
    refine E_callV_v (pc := 33) (S := []) O [] CV_RailSequenceModel_110 rfl (fun r e => t_X4_save e) dX4_on_33 hf rfl ⟨(Nat.le_of_ble_eq_true rfl), (Nat.le_of_ble_eq_true rfl)⟩ ⟨(Nat.le_of_ble_eq_true rfl), (Nat.le_of_ble_eq_true rfl)⟩ (Nat.le_of_ble_eq_true rfl) (fun h10 hf => ?_)
    refine E_iload_n (pc := 36) O 1 dX4_on_36 rfl rfl ?_
    refine E_istore_n (pc := 37) O 2 [some (.ref x0), some (.int x1), some (.int x1), none] dX4_on_37 rfl (by decide) rfl rfl ?_
    refine E_aload_n (pc := 38) O 0 dX4_on_38 rfl rfl ?_
    refine E_getR (pc := 39) O FL_RailSequenceModel_7 dX4_on_39 hf (fun v11 hf => ?_)
    refine E_iconst (pc := 42) O (0 : Int32) dX4_on_42 (by decide) ?_
    refine E_iaload (pc := 43) O dX4_on_43 hf (fun v12 hf => ?_)
    refine E_iconst (pc := 44) O (1 : Int32) dX4_on_44 (by decide) ?_
    refine E_isub (pc := 45) O dX4_on_45 ?_
    obtain ⟨v13, ev13, hf⟩ := ob hf
    have ev13 := os ev13
    rw [ev13]
    refine E_istore_n (pc := 46) O 3 [some (.ref x0), some (.int x1), some (.int x1), some (.int v13)] dX4_on_46 rfl (by decide) rfl rfl ?_
    exact E_sub (L' := [some (.ref x0), none, some (.int x1), some (.int v13)]) (And.intro rfl (And.intro rfl (And.intro rfl True.intro))) (t_f_X4_on_47 O Z FU h10 x0 x1 v13 hf)
  · refine E_iconst (pc := 30) O (0 : Int32) dX4_on_30 (by decide) ?_
    exact E_iret (pc := 31) O Z hf ⟨(Nat.le_of_ble_eq_true rfl), (Nat.le_of_ble_eq_true rfl)⟩ dX4_on_31
set_option maxHeartbeats 4000000 in
set_option maxRecDepth 100000 in
theorem t_X4_on {g : Gx} {fr : Bool} {h : MH} {x0 x1} {out : (Int32 × MH)} (hf : f_X4_on h x0 x1 = some out) : MM g yX4_on cX4_on 4 (some .int) 2 46 0 0 fr fr [.ref x0, .int x1] h (some (.int out.1)) out.2 := by
  unfold f_X4_on at hf
  refine MM_of (L := [some (.ref x0), some (.int x1), none, none]) (by decide) (Nat.le_of_ble_eq_true rfl) rfl (fun K hK O Z hn => ?_)
  refine E_aload_n (pc := 0) O 0 dX4_on_0 rfl rfl ?_
  refine E_aload_n (pc := 1) O 0 dX4_on_1 rfl rfl ?_
  refine E_iload_n (pc := 2) O 1 dX4_on_2 rfl rfl ?_
  refine E_aload_n (pc := 3) O 0 dX4_on_3 rfl rfl ?_
  refine E_getR (pc := 4) O FL_RailSequenceModel_7 dX4_on_4 hf (fun v14 hf => ?_)
  refine E_iconst (pc := 7) O (0 : Int32) dX4_on_7 (by decide) ?_
  refine E_iaload (pc := 8) O dX4_on_8 hf (fun v15 hf => ?_)
  refine E_callV_iP (pc := 9) (S := [.ref x0]) O [.int x1, .int v15] CV_RailSequenceModel_107 rfl (fun r e => t_X4_isMask e) dX4_on_9 hf rfl ⟨(Nat.le_of_ble_eq_true rfl), (Nat.le_of_ble_eq_true rfl)⟩ ⟨(Nat.le_of_ble_eq_true rfl), (Nat.le_of_ble_eq_true rfl)⟩ (Nat.le_of_ble_eq_true rfl) (fun v16 hf => ?_)
  refine E_if_eq (pc := 12) O 19 dX4_on_12 (by decide) hf (fun hf => ?_) (fun hf => ?_)
  · refine E_iconst (pc := 19) O (1 : Int32) dX4_on_19 (by decide) ?_
    exact t_b_X4_on_20 O Z h x0 x1 x0 (1 : Int32) hf
  · refine E_iconst (pc := 15) O (0 : Int32) dX4_on_15 (by decide) ?_
    refine E_goto (pc := 16) O 20 dX4_on_16 (by decide) ?_
    exact t_b_X4_on_20 O Z h x0 x1 x0 (0 : Int32) hf
set_option maxHeartbeats 4000000 in
set_option maxRecDepth 100000 in
theorem t_b_X4_unwant_59 {K : Cx} {fr : Bool} {out : MH} (O : Ok K yX4_unwant.cls cX4_unwant 4 (rmm 1 23 0 0)) (Z : Out K none fr none out) (rec4 : MH → Nat → Int32 → Int32 → Option MH) (hr4 : ∀ (h : MH) (x0 : Nat) (x2 : Int32) (x3 : Int32), rec4 h x0 x2 x3 = some out → EE K (fr, 0, 0) 4 [some (.ref x0), none, some (.int x2), some (.int x3)] [] h) (h : MH) (x0 : Nat) (x2 : Int32) (x3 : Int32) (s0 : Nat) (s1 : Int32) (s2 : Int32) (s3 : Int32) (hf : b_X4_unwant_59 rec4 h x0 x2 x3 s0 s1 s2 s3 = some out) : EE K (fr, 0, 0) 59 [some (.ref x0), none, some (.int x2), some (.int x3)] [.int s3, .int s2, .int s1, .ref s0] h := by
  unfold b_X4_unwant_59 at hf
  refine E_callV_v (pc := 59) (S := []) O [.int s1, .int s2, .int s3] CV_RailSequenceModel_40 rfl (fun r e => t_X4_lay e) dX4_unwant_59 hf rfl ⟨(Nat.le_of_ble_eq_true rfl), (Nat.le_of_ble_eq_true rfl)⟩ ⟨(Nat.le_of_ble_eq_true rfl), (Nat.le_of_ble_eq_true rfl)⟩ (Nat.le_of_ble_eq_true rfl) (fun h1 hf => ?_)
  refine E_iinc (pc := 62) O (1 : Int32) [some (.ref x0), none, some (.int x2), some (.int (x3 + (1 : Int32)))] dX4_unwant_62 rfl (by decide) rfl (by decide) rfl ?_
  refine E_goto (pc := 65) O 4 dX4_unwant_65 (by decide) ?_
  exact hr4 h1 x0 x2 (x3 + (1 : Int32)) hf
set_option maxHeartbeats 4000000 in
set_option maxRecDepth 100000 in
theorem t_b_X4_unwant_34 {K : Cx} {fr : Bool} {out : MH} (O : Ok K yX4_unwant.cls cX4_unwant 4 (rmm 1 23 0 0)) (Z : Out K none fr none out) (rec4 : MH → Nat → Int32 → Int32 → Option MH) (hr4 : ∀ (h : MH) (x0 : Nat) (x2 : Int32) (x3 : Int32), rec4 h x0 x2 x3 = some out → EE K (fr, 0, 0) 4 [some (.ref x0), none, some (.int x2), some (.int x3)] [] h) (h : MH) (x0 : Nat) (x3 : Int32) (s0 : Int32) (s1 : Int32) (hf : b_X4_unwant_34 rec4 h x0 x3 s0 s1 = some out) : EE K (fr, 0, 0) 34 [some (.ref x0), none, none, some (.int x3)] [.int s1, .int s0] h := by
  unfold b_X4_unwant_34 at hf
  refine E_ior (pc := 34) O dX4_unwant_34 ?_
  obtain ⟨v2, ev2, hf⟩ := ob hf
  have ev2 := os ev2
  rw [ev2]
  refine E_istore_n (pc := 35) O 2 [some (.ref x0), none, some (.int v2), some (.int x3)] dX4_unwant_35 rfl (by decide) rfl rfl ?_
  refine E_aload_n (pc := 36) O 0 dX4_unwant_36 rfl rfl ?_
  refine E_iload_n (pc := 37) O 3 dX4_unwant_37 rfl rfl ?_
  refine E_bipush (pc := 38) O (8 : Int32) dX4_unwant_38 (by decide) ?_
  refine E_iload_n (pc := 40) O 2 dX4_unwant_40 rfl rfl ?_
  refine E_iload_n (pc := 41) O 3 dX4_unwant_41 rfl rfl ?_
  refine E_callS_iP (pc := 42) (S := [.int (8 : Int32), .int x3, .ref x0]) O [.int v2, .int x3] CS_RailSequenceModel_61 (fun r e => t_X4_has e) dX4_unwant_42 hf rfl ⟨(Nat.le_of_ble_eq_true rfl), (Nat.le_of_ble_eq_true rfl)⟩ ⟨(Nat.le_of_ble_eq_true rfl), (Nat.le_of_ble_eq_true rfl)⟩ (Nat.le_of_ble_eq_true rfl) (fun v3 hf => ?_)
  refine E_if_eq (pc := 45) O 52 dX4_unwant_45 (by decide) hf (fun hf => ?_) (fun hf => ?_)
  · refine E_aload_n (pc := 52) O 0 dX4_unwant_52 rfl rfl ?_
    refine E_iload_n (pc := 53) O 3 dX4_unwant_53 rfl rfl ?_
    refine E_bipush (pc := 54) O (8 : Int32) dX4_unwant_54 (by decide) ?_
    refine E_callV_iP (pc := 56) (S := [.int (8 : Int32), .int x3, .ref x0]) O [.int x3, .int (8 : Int32)] CV_RailSequenceModel_36 rfl (fun r e => t_X4_of e) dX4_unwant_56 hf rfl ⟨(Nat.le_of_ble_eq_true rfl), (Nat.le_of_ble_eq_true rfl)⟩ ⟨(Nat.le_of_ble_eq_true rfl), (Nat.le_of_ble_eq_true rfl)⟩ (Nat.le_of_ble_eq_true rfl) (fun v4 hf => ?_)
    exact t_b_X4_unwant_59 O Z _ hr4 h x0 v2 x3 x0 x3 (8 : Int32) v4 hf
  · refine E_iconst (pc := 48) O (0 : Int32) dX4_unwant_48 (by decide) ?_
    refine E_goto (pc := 49) O 59 dX4_unwant_49 (by decide) ?_
    exact t_b_X4_unwant_59 O Z _ hr4 h x0 v2 x3 x0 x3 (8 : Int32) (0 : Int32) hf
set_option maxHeartbeats 4000000 in
set_option maxRecDepth 100000 in
theorem t_b_X4_unwant_4 {K : Cx} {fr : Bool} {out : MH} (O : Ok K yX4_unwant.cls cX4_unwant 4 (rmm 1 23 0 0)) (Z : Out K none fr none out) (rec4 : MH → Nat → Int32 → Int32 → Option MH) (hr4 : ∀ (h : MH) (x0 : Nat) (x2 : Int32) (x3 : Int32), rec4 h x0 x2 x3 = some out → EE K (fr, 0, 0) 4 [some (.ref x0), none, some (.int x2), some (.int x3)] [] h) (h : MH) (x0 : Nat) (x2 : Int32) (x3 : Int32) (hf : b_X4_unwant_4 rec4 h x0 x2 x3 = some out) : EE K (fr, 0, 0) 4 [some (.ref x0), none, some (.int x2), some (.int x3)] [] h := by
  unfold b_X4_unwant_4 at hf
  refine E_iload_n (pc := 4) O 3 dX4_unwant_4 rfl rfl ?_
  refine E_aload_n (pc := 5) O 0 dX4_unwant_5 rfl rfl ?_
  refine E_getR (pc := 6) O FL_RailSequenceModel_7 dX4_unwant_6 hf (fun v5 hf => ?_)
  refine E_iconst (pc := 9) O (0 : Int32) dX4_unwant_9 (by decide) ?_
  refine E_iaload (pc := 10) O dX4_unwant_10 hf (fun v6 hf => ?_)
  refine E_icmp_ge (pc := 11) O 68 dX4_unwant_11 (by decide) hf (fun hf => ?_) (fun hf => ?_)
  · exact E_vret (pc := 68) O Z hf ⟨(Nat.le_of_ble_eq_true rfl), (Nat.le_of_ble_eq_true rfl)⟩ dX4_unwant_68
  · refine E_iload_n (pc := 14) O 2 dX4_unwant_14 rfl rfl ?_
    refine E_aload_n (pc := 15) O 0 dX4_unwant_15 rfl rfl ?_
    refine E_iload_n (pc := 16) O 3 dX4_unwant_16 rfl rfl ?_
    refine E_bipush (pc := 17) O (7 : Int32) dX4_unwant_17 (by decide) ?_
    refine E_callV_iP (pc := 19) (S := [.int x2]) O [.int x3, .int (7 : Int32)] CV_RailSequenceModel_36 rfl (fun r e => t_X4_of e) dX4_unwant_19 hf rfl ⟨(Nat.le_of_ble_eq_true rfl), (Nat.le_of_ble_eq_true rfl)⟩ ⟨(Nat.le_of_ble_eq_true rfl), (Nat.le_of_ble_eq_true rfl)⟩ (Nat.le_of_ble_eq_true rfl) (fun v7 hf => ?_)
    refine E_iload_n (pc := 22) O 2 dX4_unwant_22 rfl rfl ?_
    refine E_iand (pc := 23) O dX4_unwant_23 ?_
    refine E_if_eq (pc := 24) O 33 dX4_unwant_24 (by decide) hf (fun hf => ?_) (fun hf => ?_)
    · refine E_iconst (pc := 33) O (0 : Int32) dX4_unwant_33 (by decide) ?_
      exact E_sub (L' := [some (.ref x0), none, none, some (.int x3)]) (And.intro rfl (And.intro rfl True.intro)) (t_b_X4_unwant_34 O Z _ hr4 h x0 x3 x2 (0 : Int32) hf)
    · refine E_iconst (pc := 27) O (1 : Int32) dX4_unwant_27 (by decide) ?_
      refine E_iload_n (pc := 28) O 3 dX4_unwant_28 rfl rfl ?_
      refine E_ishl (pc := 29) O dX4_unwant_29 ?_
      refine E_goto (pc := 30) O 34 dX4_unwant_30 (by decide) ?_
      exact E_sub (L' := [some (.ref x0), none, none, some (.int x3)]) (And.intro rfl (And.intro rfl True.intro)) (t_b_X4_unwant_34 O Z _ hr4 h x0 x3 x2 ((1 : Int32) <<< (x3 &&& 31)) hf)
theorem t_f_X4_unwant_4 {K : Cx} {fr : Bool} {out : MH} (O : Ok K yX4_unwant.cls cX4_unwant 4 (rmm 1 23 0 0)) (Z : Out K none fr none out) : ∀ (n : Nat) (h : MH) (x0 : Nat) (x2 : Int32) (x3 : Int32), f_X4_unwant_4 n h x0 x2 x3 = some out → EE K (fr, 0, 0) 4 [some (.ref x0), none, some (.int x2), some (.int x3)] [] h := by
  intro n
  induction n with
  | zero => intro h x0 x2 x3 hf; cases hf
  | succ n ih => intro h x0 x2 x3 hf; exact t_b_X4_unwant_4 O Z _ ih h x0 x2 x3 hf
set_option maxHeartbeats 4000000 in
set_option maxRecDepth 100000 in
theorem t_X4_unwant {g : Gx} {fr : Bool} {h : MH} {x0 x1} {out : MH} (hf : f_X4_unwant h x0 x1 = some out) : MM g yX4_unwant cX4_unwant 4 none 1 23 0 0 fr fr [.ref x0, .int x1] h none out := by
  unfold f_X4_unwant at hf
  refine MM_of (L := [some (.ref x0), some (.int x1), none, none]) (by decide) (Nat.le_of_ble_eq_true rfl) rfl (fun K hK O Z hn => ?_)
  refine E_iload_n (pc := 0) O 1 dX4_unwant_0 rfl rfl ?_
  refine E_istore_n (pc := 1) O 2 [some (.ref x0), some (.int x1), some (.int x1), none] dX4_unwant_1 rfl (by decide) rfl rfl ?_
  refine E_iconst (pc := 2) O (0 : Int32) dX4_unwant_2 (by decide) ?_
  refine E_istore_n (pc := 3) O 3 [some (.ref x0), some (.int x1), some (.int x1), some (.int (0 : Int32))] dX4_unwant_3 rfl (by decide) rfl rfl ?_
  exact E_sub (L' := [some (.ref x0), none, some (.int x1), some (.int (0 : Int32))]) (And.intro rfl (And.intro rfl (And.intro rfl True.intro))) (t_f_X4_unwant_4 O Z FU h x0 x1 (0 : Int32) hf)
set_option maxHeartbeats 4000000 in
set_option maxRecDepth 100000 in
theorem t_b_X4_off_20 {K : Cx} {fr : Bool} {out : (Int32 × MH)} (O : Ok K yX4_off.cls cX4_off 2 (rmm 2 46 0 0)) (Z : Out K (some .int) fr (some (.int out.1)) out.2) (h : MH) (x0 : Nat) (x1 : Int32) (s0 : Nat) (s1 : Int32) (hf : b_X4_off_20 h x0 x1 s0 s1 = some out) : EE K (fr, 0, 0) 20 [some (.ref x0), some (.int x1)] [.int s1, .ref s0] h := by
  unfold b_X4_off_20 at hf
  refine E_put (pc := 20) O FN_RailSequenceModel_28 rfl rfl dX4_off_20 hf (fun h1 hf => ?_)
  refine E_aload_n (pc := 23) O 0 dX4_off_23 rfl rfl ?_
  refine E_getI (pc := 24) O FL_RailSequenceModel_28 dX4_off_24 hf (fun v2 hf => ?_)
  refine E_if_le (pc := 27) O 32 dX4_off_27 (by decide) hf (fun hf => ?_) (fun hf => ?_)
  · refine E_aload_n (pc := 32) O 0 dX4_off_32 rfl rfl ?_
    refine E_callV_v (pc := 33) (S := []) O [] CV_RailSequenceModel_110 rfl (fun r e => t_X4_save e) dX4_off_33 hf rfl ⟨(Nat.le_of_ble_eq_true rfl), (Nat.le_of_ble_eq_true rfl)⟩ ⟨(Nat.le_of_ble_eq_true rfl), (Nat.le_of_ble_eq_true rfl)⟩ (Nat.le_of_ble_eq_true rfl) (fun h3 hf => ?_)
    refine E_aload_n (pc := 36) O 0 dX4_off_36 rfl rfl ?_
    refine E_iload_n (pc := 37) O 1 dX4_off_37 rfl rfl ?_
    refine E_callV_v (pc := 38) (S := []) O [.int x1] CV_RailSequenceModel_126 rfl (fun r e => t_X4_unwant e) dX4_off_38 hf rfl ⟨(Nat.le_of_ble_eq_true rfl), (Nat.le_of_ble_eq_true rfl)⟩ ⟨(Nat.le_of_ble_eq_true rfl), (Nat.le_of_ble_eq_true rfl)⟩ (Nat.le_of_ble_eq_true rfl) (fun h4 hf => ?_)
    refine E_aload_n (pc := 41) O 0 dX4_off_41 rfl rfl ?_
    refine E_bipush (pc := 42) O (8 : Int32) dX4_off_42 (by decide) ?_
    refine E_iconst (pc := 44) O (1 : Int32) dX4_off_44 (by decide) ?_
    refine E_callV_iP (pc := 45) (S := []) O [.int (8 : Int32), .int (1 : Int32)] CV_RailSequenceModel_123 rfl (fun r e => t_X4_maskOf e) dX4_off_45 hf rfl ⟨(Nat.le_of_ble_eq_true rfl), (Nat.le_of_ble_eq_true rfl)⟩ ⟨(Nat.le_of_ble_eq_true rfl), (Nat.le_of_ble_eq_true rfl)⟩ (Nat.le_of_ble_eq_true rfl) (fun v5 hf => ?_)
    exact E_iret (pc := 48) O Z hf ⟨(Nat.le_of_ble_eq_true rfl), (Nat.le_of_ble_eq_true rfl)⟩ dX4_off_48
  · refine E_iconst (pc := 30) O (0 : Int32) dX4_off_30 (by decide) ?_
    exact E_iret (pc := 31) O Z hf ⟨(Nat.le_of_ble_eq_true rfl), (Nat.le_of_ble_eq_true rfl)⟩ dX4_off_31
set_option maxHeartbeats 4000000 in
set_option maxRecDepth 100000 in
theorem t_X4_off {g : Gx} {fr : Bool} {h : MH} {x0 x1} {out : (Int32 × MH)} (hf : f_X4_off h x0 x1 = some out) : MM g yX4_off cX4_off 2 (some .int) 2 46 0 0 fr fr [.ref x0, .int x1] h (some (.int out.1)) out.2 := by
  unfold f_X4_off at hf
  refine MM_of (L := [some (.ref x0), some (.int x1)]) (by decide) (Nat.le_of_ble_eq_true rfl) rfl (fun K hK O Z hn => ?_)
  refine E_aload_n (pc := 0) O 0 dX4_off_0 rfl rfl ?_
  refine E_aload_n (pc := 1) O 0 dX4_off_1 rfl rfl ?_
  refine E_iload_n (pc := 2) O 1 dX4_off_2 rfl rfl ?_
  refine E_aload_n (pc := 3) O 0 dX4_off_3 rfl rfl ?_
  refine E_getR (pc := 4) O FL_RailSequenceModel_7 dX4_off_4 hf (fun v6 hf => ?_)
  refine E_iconst (pc := 7) O (0 : Int32) dX4_off_7 (by decide) ?_
  refine E_iaload (pc := 8) O dX4_off_8 hf (fun v7 hf => ?_)
  refine E_callV_iP (pc := 9) (S := [.ref x0]) O [.int x1, .int v7] CV_RailSequenceModel_107 rfl (fun r e => t_X4_isMask e) dX4_off_9 hf rfl ⟨(Nat.le_of_ble_eq_true rfl), (Nat.le_of_ble_eq_true rfl)⟩ ⟨(Nat.le_of_ble_eq_true rfl), (Nat.le_of_ble_eq_true rfl)⟩ (Nat.le_of_ble_eq_true rfl) (fun v8 hf => ?_)
  refine E_if_eq (pc := 12) O 19 dX4_off_12 (by decide) hf (fun hf => ?_) (fun hf => ?_)
  · refine E_iconst (pc := 19) O (1 : Int32) dX4_off_19 (by decide) ?_
    exact t_b_X4_off_20 O Z h x0 x1 x0 (1 : Int32) hf
  · refine E_iconst (pc := 15) O (0 : Int32) dX4_off_15 (by decide) ?_
    refine E_goto (pc := 16) O 20 dX4_off_16 (by decide) ?_
    exact t_b_X4_off_20 O Z h x0 x1 x0 (0 : Int32) hf
set_option maxHeartbeats 4000000 in
set_option maxRecDepth 100000 in
theorem t_b_X4_restart_145 {K : Cx} {fr : Bool} {out : (Int32 × MH)} (O : Ok K yX4_restart.cls cX4_restart 6 (rmm 3 69 0 0)) (Z : Out K (some .int) fr (some (.int out.1)) out.2) (rec62 : MH → Nat → Int32 → Int32 → Int32 → Option (Int32 × MH)) (hr62 : ∀ (h : MH) (x0 : Nat) (x1 : Int32) (x2 : Int32) (x3 : Int32), rec62 h x0 x1 x2 x3 = some out → EE K (fr, 0, 0) 62 [some (.ref x0), some (.int x1), some (.int x2), some (.int x3), none, none] [] h) (h : MH) (x0 : Nat) (x1 : Int32) (x2 : Int32) (x3 : Int32) (hf : b_X4_restart_145 rec62 h x0 x1 x2 x3 = some out) : EE K (fr, 0, 0) 145 [some (.ref x0), some (.int x1), some (.int x2), some (.int x3), none, none] [] h := by
  unfold b_X4_restart_145 at hf
  refine E_iinc (pc := 145) O (1 : Int32) [some (.ref x0), some (.int x1), some (.int x2), some (.int (x3 + (1 : Int32))), none, none] dX4_restart_145 rfl (by decide) rfl (by decide) rfl ?_
  refine E_goto (pc := 148) O 62 dX4_restart_148 (by decide) ?_
  exact hr62 h x0 x1 x2 (x3 + (1 : Int32)) hf
set_option maxHeartbeats 4000000 in
set_option maxRecDepth 100000 in
theorem t_b_X4_restart_115 {K : Cx} {fr : Bool} {out : (Int32 × MH)} (O : Ok K yX4_restart.cls cX4_restart 6 (rmm 3 69 0 0)) (Z : Out K (some .int) fr (some (.int out.1)) out.2) (rec62 : MH → Nat → Int32 → Int32 → Int32 → Option (Int32 × MH)) (hr62 : ∀ (h : MH) (x0 : Nat) (x1 : Int32) (x2 : Int32) (x3 : Int32), rec62 h x0 x1 x2 x3 = some out → EE K (fr, 0, 0) 62 [some (.ref x0), some (.int x1), some (.int x2), some (.int x3), none, none] [] h) (h : MH) (x0 : Nat) (x1 : Int32) (x2 : Int32) (x3 : Int32) (s0 : Int32) (hf : b_X4_restart_115 rec62 h x0 x1 x2 x3 s0 = some out) : EE K (fr, 0, 0) 115 [some (.ref x0), some (.int x1), some (.int x2), some (.int x3), none, none] [.int s0] h := by
  unfold b_X4_restart_115 at hf
  refine E_istore (pc := 115) O [some (.ref x0), some (.int x1), some (.int x2), some (.int x3), none, some (.int s0)] dX4_restart_115 (by decide) rfl rfl ?_
  refine E_iload_n (pc := 117) O 2 dX4_restart_117 rfl rfl ?_
  refine E_iload_n (pc := 118) O 3 dX4_restart_118 rfl rfl ?_
  refine E_callS_iP (pc := 119) (S := []) O [.int x2, .int x3] CS_RailSequenceModel_61 (fun r e => t_X4_has e) dX4_restart_119 hf rfl ⟨(Nat.le_of_ble_eq_true rfl), (Nat.le_of_ble_eq_true rfl)⟩ ⟨(Nat.le_of_ble_eq_true rfl), (Nat.le_of_ble_eq_true rfl)⟩ (Nat.le_of_ble_eq_true rfl) (fun v1 hf => ?_)
  refine E_if_eq (pc := 122) O 145 dX4_restart_122 (by decide) hf (fun hf => ?_) (fun hf => ?_)
  · exact E_sub (L' := [some (.ref x0), some (.int x1), some (.int x2), some (.int x3), none, none]) (And.intro rfl (And.intro rfl (And.intro rfl (And.intro rfl True.intro)))) (t_b_X4_restart_145 O Z _ hr62 h x0 x1 x2 x3 hf)
  · refine E_iload (pc := 125) O dX4_restart_125 rfl ?_
    refine E_if_eq (pc := 127) O 145 dX4_restart_127 (by decide) hf (fun hf => ?_) (fun hf => ?_)
    · exact E_sub (L' := [some (.ref x0), some (.int x1), some (.int x2), some (.int x3), none, none]) (And.intro rfl (And.intro rfl (And.intro rfl (And.intro rfl True.intro)))) (t_b_X4_restart_145 O Z _ hr62 h x0 x1 x2 x3 hf)
    · refine E_aload_n (pc := 130) O 0 dX4_restart_130 rfl rfl ?_
      refine E_iload_n (pc := 131) O 3 dX4_restart_131 rfl rfl ?_
      refine E_bipush (pc := 132) O (14 : Int32) dX4_restart_132 (by decide) ?_
      refine E_iconst (pc := 134) O (0 : Int32) dX4_restart_134 (by decide) ?_
      refine E_callV_v (pc := 135) (S := []) O [.int x3, .int (14 : Int32), .int (0 : Int32)] CV_RailSequenceModel_40 rfl (fun r e => t_X4_lay e) dX4_restart_135 hf rfl ⟨(Nat.le_of_ble_eq_true rfl), (Nat.le_of_ble_eq_true rfl)⟩ ⟨(Nat.le_of_ble_eq_true rfl), (Nat.le_of_ble_eq_true rfl)⟩ (Nat.le_of_ble_eq_true rfl) (fun h2 hf => ?_)
      refine E_aload_n (pc := 138) O 0 dX4_restart_138 rfl rfl ?_
      refine E_iload_n (pc := 139) O 3 dX4_restart_139 rfl rfl ?_
      refine E_iconst (pc := 140) O (4 : Int32) dX4_restart_140 (by decide) ?_
      refine E_iload_n (pc := 141) O 1 dX4_restart_141 rfl rfl ?_
      refine E_callV_v (pc := 142) (S := []) O [.int x3, .int (4 : Int32), .int x1] CV_RailSequenceModel_72 rfl (fun r e => t_X4_becomeFor e) dX4_restart_142 hf rfl ⟨(Nat.le_of_ble_eq_true rfl), (Nat.le_of_ble_eq_true rfl)⟩ ⟨(Nat.le_of_ble_eq_true rfl), (Nat.le_of_ble_eq_true rfl)⟩ (Nat.le_of_ble_eq_true rfl) (fun h3 hf => ?_)
      exact E_sub (L' := [some (.ref x0), some (.int x1), some (.int x2), some (.int x3), none, none]) (And.intro rfl (And.intro rfl (And.intro rfl (And.intro rfl True.intro)))) (t_b_X4_restart_145 O Z _ hr62 h3 x0 x1 x2 x3 hf)
set_option maxHeartbeats 4000000 in
set_option maxRecDepth 100000 in
theorem t_b_X4_restart_114 {K : Cx} {fr : Bool} {out : (Int32 × MH)} (O : Ok K yX4_restart.cls cX4_restart 6 (rmm 3 69 0 0)) (Z : Out K (some .int) fr (some (.int out.1)) out.2) (rec62 : MH → Nat → Int32 → Int32 → Int32 → Option (Int32 × MH)) (hr62 : ∀ (h : MH) (x0 : Nat) (x1 : Int32) (x2 : Int32) (x3 : Int32), rec62 h x0 x1 x2 x3 = some out → EE K (fr, 0, 0) 62 [some (.ref x0), some (.int x1), some (.int x2), some (.int x3), none, none] [] h) (h : MH) (x0 : Nat) (x1 : Int32) (x2 : Int32) (x3 : Int32) (hf : b_X4_restart_114 rec62 h x0 x1 x2 x3 = some out) : EE K (fr, 0, 0) 114 [some (.ref x0), some (.int x1), some (.int x2), some (.int x3), none, none] [] h := by
  unfold b_X4_restart_114 at hf
  refine E_iconst (pc := 114) O (0 : Int32) dX4_restart_114 (by decide) ?_
  exact t_b_X4_restart_115 O Z _ hr62 h x0 x1 x2 x3 (0 : Int32) hf
set_option maxHeartbeats 4000000 in
set_option maxRecDepth 100000 in
theorem t_b_X4_restart_110 {K : Cx} {fr : Bool} {out : (Int32 × MH)} (O : Ok K yX4_restart.cls cX4_restart 6 (rmm 3 69 0 0)) (Z : Out K (some .int) fr (some (.int out.1)) out.2) (rec62 : MH → Nat → Int32 → Int32 → Int32 → Option (Int32 × MH)) (hr62 : ∀ (h : MH) (x0 : Nat) (x1 : Int32) (x2 : Int32) (x3 : Int32), rec62 h x0 x1 x2 x3 = some out → EE K (fr, 0, 0) 62 [some (.ref x0), some (.int x1), some (.int x2), some (.int x3), none, none] [] h) (h : MH) (x0 : Nat) (x1 : Int32) (x2 : Int32) (x3 : Int32) (hf : b_X4_restart_110 rec62 h x0 x1 x2 x3 = some out) : EE K (fr, 0, 0) 110 [some (.ref x0), some (.int x1), some (.int x2), some (.int x3), none, none] [] h := by
  unfold b_X4_restart_110 at hf
  refine E_iconst (pc := 110) O (1 : Int32) dX4_restart_110 (by decide) ?_
  refine E_goto (pc := 111) O 115 dX4_restart_111 (by decide) ?_
  exact t_b_X4_restart_115 O Z _ hr62 h x0 x1 x2 x3 (1 : Int32) hf
set_option maxHeartbeats 4000000 in
set_option maxRecDepth 100000 in
theorem t_b_X4_restart_62 {K : Cx} {fr : Bool} {out : (Int32 × MH)} (O : Ok K yX4_restart.cls cX4_restart 6 (rmm 3 69 0 0)) (Z : Out K (some .int) fr (some (.int out.1)) out.2) (rec62 : MH → Nat → Int32 → Int32 → Int32 → Option (Int32 × MH)) (hr62 : ∀ (h : MH) (x0 : Nat) (x1 : Int32) (x2 : Int32) (x3 : Int32), rec62 h x0 x1 x2 x3 = some out → EE K (fr, 0, 0) 62 [some (.ref x0), some (.int x1), some (.int x2), some (.int x3), none, none] [] h) (h : MH) (x0 : Nat) (x1 : Int32) (x2 : Int32) (x3 : Int32) (hf : b_X4_restart_62 rec62 h x0 x1 x2 x3 = some out) : EE K (fr, 0, 0) 62 [some (.ref x0), some (.int x1), some (.int x2), some (.int x3), none, none] [] h := by
  unfold b_X4_restart_62 at hf
  refine E_iload_n (pc := 62) O 3 dX4_restart_62 rfl rfl ?_
  refine E_aload_n (pc := 63) O 0 dX4_restart_63 rfl rfl ?_
  refine E_getR (pc := 64) O FL_RailSequenceModel_7 dX4_restart_64 hf (fun v4 hf => ?_)
  refine E_iconst (pc := 67) O (0 : Int32) dX4_restart_67 (by decide) ?_
  refine E_iaload (pc := 68) O dX4_restart_68 hf (fun v5 hf => ?_)
  refine E_icmp_ge (pc := 69) O 151 dX4_restart_69 (by decide) hf (fun hf => ?_) (fun hf => ?_)
  · refine E_aload_n (pc := 151) O 0 dX4_restart_151 rfl rfl ?_
    refine E_getI (pc := 152) O FL_RailSequenceModel_44 dX4_restart_152 hf (fun v6 hf => ?_)
    exact E_iret (pc := 155) O Z hf ⟨(Nat.le_of_ble_eq_true rfl), (Nat.le_of_ble_eq_true rfl)⟩ dX4_restart_155
  · refine E_aload_n (pc := 72) O 0 dX4_restart_72 rfl rfl ?_
    refine E_iload_n (pc := 73) O 3 dX4_restart_73 rfl rfl ?_
    refine E_bipush (pc := 74) O (9 : Int32) dX4_restart_74 (by decide) ?_
    refine E_callV_iP (pc := 76) (S := []) O [.int x3, .int (9 : Int32)] CV_RailSequenceModel_36 rfl (fun r e => t_X4_of e) dX4_restart_76 hf rfl ⟨(Nat.le_of_ble_eq_true rfl), (Nat.le_of_ble_eq_true rfl)⟩ ⟨(Nat.le_of_ble_eq_true rfl), (Nat.le_of_ble_eq_true rfl)⟩ (Nat.le_of_ble_eq_true rfl) (fun v7 hf => ?_)
    refine E_istore (pc := 79) O [some (.ref x0), some (.int x1), some (.int x2), some (.int x3), some (.int v7), none] dX4_restart_79 (by decide) rfl rfl ?_
    refine E_iload (pc := 81) O dX4_restart_81 rfl ?_
    refine E_iconst (pc := 83) O (2 : Int32) dX4_restart_83 (by decide) ?_
    refine E_icmp_eq (pc := 84) O 110 dX4_restart_84 (by decide) hf (fun hf => ?_) (fun hf => ?_)
    · exact E_sub (L' := [some (.ref x0), some (.int x1), some (.int x2), some (.int x3), none, none]) (And.intro rfl (And.intro rfl (And.intro rfl (And.intro rfl True.intro)))) (t_b_X4_restart_110 O Z _ hr62 h x0 x1 x2 x3 hf)
    · refine E_iload (pc := 87) O dX4_restart_87 rfl ?_
      refine E_iconst (pc := 89) O (3 : Int32) dX4_restart_89 (by decide) ?_
      refine E_icmp_eq (pc := 90) O 110 dX4_restart_90 (by decide) hf (fun hf => ?_) (fun hf => ?_)
      · exact E_sub (L' := [some (.ref x0), some (.int x1), some (.int x2), some (.int x3), none, none]) (And.intro rfl (And.intro rfl (And.intro rfl (And.intro rfl True.intro)))) (t_b_X4_restart_110 O Z _ hr62 h x0 x1 x2 x3 hf)
      · refine E_iload (pc := 93) O dX4_restart_93 rfl ?_
        refine E_iconst (pc := 95) O (5 : Int32) dX4_restart_95 (by decide) ?_
        refine E_icmp_ne (pc := 96) O 114 dX4_restart_96 (by decide) hf (fun hf => ?_) (fun hf => ?_)
        · exact E_sub (L' := [some (.ref x0), some (.int x1), some (.int x2), some (.int x3), none, none]) (And.intro rfl (And.intro rfl (And.intro rfl (And.intro rfl True.intro)))) (t_b_X4_restart_114 O Z _ hr62 h x0 x1 x2 x3 hf)
        · refine E_aload_n (pc := 99) O 0 dX4_restart_99 rfl rfl ?_
          refine E_iload_n (pc := 100) O 3 dX4_restart_100 rfl rfl ?_
          refine E_bipush (pc := 101) O (8 : Int32) dX4_restart_101 (by decide) ?_
          refine E_callV_iP (pc := 103) (S := []) O [.int x3, .int (8 : Int32)] CV_RailSequenceModel_36 rfl (fun r e => t_X4_of e) dX4_restart_103 hf rfl ⟨(Nat.le_of_ble_eq_true rfl), (Nat.le_of_ble_eq_true rfl)⟩ ⟨(Nat.le_of_ble_eq_true rfl), (Nat.le_of_ble_eq_true rfl)⟩ (Nat.le_of_ble_eq_true rfl) (fun v8 hf => ?_)
          refine E_iconst (pc := 106) O (1 : Int32) dX4_restart_106 (by decide) ?_
          refine E_icmp_ne (pc := 107) O 114 dX4_restart_107 (by decide) hf (fun hf => ?_) (fun hf => ?_)
          · exact E_sub (L' := [some (.ref x0), some (.int x1), some (.int x2), some (.int x3), none, none]) (And.intro rfl (And.intro rfl (And.intro rfl (And.intro rfl True.intro)))) (t_b_X4_restart_114 O Z _ hr62 h x0 x1 x2 x3 hf)
          · exact E_sub (L' := [some (.ref x0), some (.int x1), some (.int x2), some (.int x3), none, none]) (And.intro rfl (And.intro rfl (And.intro rfl (And.intro rfl True.intro)))) (t_b_X4_restart_110 O Z _ hr62 h x0 x1 x2 x3 hf)
theorem t_f_X4_restart_62 {K : Cx} {fr : Bool} {out : (Int32 × MH)} (O : Ok K yX4_restart.cls cX4_restart 6 (rmm 3 69 0 0)) (Z : Out K (some .int) fr (some (.int out.1)) out.2) : ∀ (n : Nat) (h : MH) (x0 : Nat) (x1 : Int32) (x2 : Int32) (x3 : Int32), f_X4_restart_62 n h x0 x1 x2 x3 = some out → EE K (fr, 0, 0) 62 [some (.ref x0), some (.int x1), some (.int x2), some (.int x3), none, none] [] h := by
  intro n
  induction n with
  | zero => intro h x0 x1 x2 x3 hf; cases hf
  | succ n ih => intro h x0 x1 x2 x3 hf; exact t_b_X4_restart_62 O Z _ ih h x0 x1 x2 x3 hf
set_option maxHeartbeats 4000000 in
set_option maxRecDepth 100000 in
theorem t_b_X4_restart_29 {K : Cx} {fr : Bool} {out : (Int32 × MH)} (O : Ok K yX4_restart.cls cX4_restart 6 (rmm 3 69 0 0)) (Z : Out K (some .int) fr (some (.int out.1)) out.2) (h : MH) (x0 : Nat) (x1 : Int32) (s0 : Nat) (s1 : Int32) (hf : b_X4_restart_29 h x0 x1 s0 s1 = some out) : EE K (fr, 0, 0) 29 [some (.ref x0), some (.int x1), none, none, none, none] [.int s1, .ref s0] h := by
  unfold b_X4_restart_29 at hf
  refine E_put (pc := 29) O FN_RailSequenceModel_28 rfl rfl dX4_restart_29 hf (fun h9 hf => ?_)
  refine E_aload_n (pc := 32) O 0 dX4_restart_32 rfl rfl ?_
  refine E_getI (pc := 33) O FL_RailSequenceModel_28 dX4_restart_33 hf (fun v10 hf => ?_)
  refine E_if_le (pc := 36) O 41 dX4_restart_36 (by decide) hf (fun hf => ?_) (fun hf => ?_)
  · refine E_aload_n (pc := 41) O 0 dX4_restart_41 rfl rfl ?_
    refine E_callV_v (pc := 42) (S := []) O [] CV_RailSequenceModel_110 rfl (fun r e => t_X4_save e) dX4_restart_42 hf rfl ⟨(Nat.le_of_ble_eq_true rfl), (Nat.le_of_ble_eq_true rfl)⟩ ⟨(Nat.le_of_ble_eq_true rfl), (Nat.le_of_ble_eq_true rfl)⟩ (Nat.le_of_ble_eq_true rfl) (fun h11 hf => ?_)
    refine E_aload_n (pc := 45) O 0 dX4_restart_45 rfl rfl ?_
    refine E_iload_n (pc := 46) O 1 dX4_restart_46 rfl rfl ?_
    refine E_callV_iP (pc := 47) (S := []) O [.int x1] CV_RailSequenceModel_129 rfl (fun r e => t_X4_followers e) dX4_restart_47 hf rfl ⟨(Nat.le_of_ble_eq_true rfl), (Nat.le_of_ble_eq_true rfl)⟩ ⟨(Nat.le_of_ble_eq_true rfl), (Nat.le_of_ble_eq_true rfl)⟩ (Nat.le_of_ble_eq_true rfl) (fun v12 hf => ?_)
    refine E_iconst (pc := 50) O (1 : Int32) dX4_restart_50 (by decide) ?_
    refine E_iload_n (pc := 51) O 1 dX4_restart_51 rfl rfl ?_
    refine E_ishl (pc := 52) O dX4_restart_52 ?_
    refine E_ior (pc := 53) O dX4_restart_53 ?_
    obtain ⟨v13, ev13, hf⟩ := ob hf
    have ev13 := os ev13
    rw [ev13]
    refine E_istore_n (pc := 54) O 2 [some (.ref x0), some (.int x1), some (.int v13), none, none, none] dX4_restart_54 rfl (by decide) rfl rfl ?_
    refine E_aload_n (pc := 55) O 0 dX4_restart_55 rfl rfl ?_
    refine E_iconst (pc := 56) O (0 : Int32) dX4_restart_56 (by decide) ?_
    refine E_put (pc := 57) O FN_RailSequenceModel_44 rfl rfl dX4_restart_57 hf (fun h14 hf => ?_)
    refine E_iload_n (pc := 60) O 1 dX4_restart_60 rfl rfl ?_
    refine E_istore_n (pc := 61) O 3 [some (.ref x0), some (.int x1), some (.int v13), some (.int x1), none, none] dX4_restart_61 rfl (by decide) rfl rfl ?_
    exact t_f_X4_restart_62 O Z FU h14 x0 x1 v13 x1 hf
  · refine E_iconst (pc := 39) O (0 : Int32) dX4_restart_39 (by decide) ?_
    exact E_iret (pc := 40) O Z hf ⟨(Nat.le_of_ble_eq_true rfl), (Nat.le_of_ble_eq_true rfl)⟩ dX4_restart_40
set_option maxHeartbeats 4000000 in
set_option maxRecDepth 100000 in
theorem t_X4_restart {g : Gx} {fr : Bool} {h : MH} {x0 x1} {out : (Int32 × MH)} (hf : f_X4_restart h x0 x1 = some out) : MM g yX4_restart cX4_restart 6 (some .int) 3 69 0 0 fr fr [.ref x0, .int x1] h (some (.int out.1)) out.2 := by
  unfold f_X4_restart at hf
  refine MM_of (L := [some (.ref x0), some (.int x1), none, none, none, none]) (by decide) (Nat.le_of_ble_eq_true rfl) rfl (fun K hK O Z hn => ?_)
  refine E_aload_n (pc := 0) O 0 dX4_restart_0 rfl rfl ?_
  refine E_aload_n (pc := 1) O 0 dX4_restart_1 rfl rfl ?_
  refine E_iload_n (pc := 2) O 1 dX4_restart_2 rfl rfl ?_
  refine E_callV_iP (pc := 3) (S := [.ref x0]) O [.int x1] CV_RailSequenceModel_117 rfl (fun r e => t_X4_isRail e) dX4_restart_3 hf rfl ⟨(Nat.le_of_ble_eq_true rfl), (Nat.le_of_ble_eq_true rfl)⟩ ⟨(Nat.le_of_ble_eq_true rfl), (Nat.le_of_ble_eq_true rfl)⟩ (Nat.le_of_ble_eq_true rfl) (fun v15 hf => ?_)
  refine E_if_ne (pc := 6) O 13 dX4_restart_6 (by decide) hf (fun hf => ?_) (fun hf => ?_)
  · refine E_aload_n (pc := 13) O 0 dX4_restart_13 rfl rfl ?_
    refine E_iload_n (pc := 14) O 1 dX4_restart_14 rfl rfl ?_
    refine E_bipush (pc := 15) O (8 : Int32) dX4_restart_15 (by decide) ?_
    refine E_callV_iP (pc := 17) (S := [.ref x0]) O [.int x1, .int (8 : Int32)] CV_RailSequenceModel_36 rfl (fun r e => t_X4_of e) dX4_restart_17 hf rfl ⟨(Nat.le_of_ble_eq_true rfl), (Nat.le_of_ble_eq_true rfl)⟩ ⟨(Nat.le_of_ble_eq_true rfl), (Nat.le_of_ble_eq_true rfl)⟩ (Nat.le_of_ble_eq_true rfl) (fun v16 hf => ?_)
    refine E_iconst (pc := 20) O (1 : Int32) dX4_restart_20 (by decide) ?_
    refine E_icmp_ne (pc := 21) O 28 dX4_restart_21 (by decide) hf (fun hf => ?_) (fun hf => ?_)
    · refine E_iconst (pc := 28) O (2 : Int32) dX4_restart_28 (by decide) ?_
      exact t_b_X4_restart_29 O Z h x0 x1 x0 (2 : Int32) hf
    · refine E_iconst (pc := 24) O (0 : Int32) dX4_restart_24 (by decide) ?_
      refine E_goto (pc := 25) O 29 dX4_restart_25 (by decide) ?_
      exact t_b_X4_restart_29 O Z h x0 x1 x0 (0 : Int32) hf
  · refine E_iconst (pc := 9) O (1 : Int32) dX4_restart_9 (by decide) ?_
    refine E_goto (pc := 10) O 29 dX4_restart_10 (by decide) ?_
    exact t_b_X4_restart_29 O Z h x0 x1 x0 (1 : Int32) hf
set_option maxHeartbeats 4000000 in
set_option maxRecDepth 100000 in
theorem t_b_X4_shortCircuit_51 {K : Cx} {fr : Bool} {out : (Int32 × MH)} (O : Ok K yX4_shortCircuit.cls cX4_shortCircuit 3 (rmm 2 47 0 0)) (Z : Out K (some .int) fr (some (.int out.1)) out.2) (h : MH) (s0 : Int32) (hf : b_X4_shortCircuit_51 h s0 = some out) : EE K (fr, 0, 0) 51 [none, none, none] [.int s0] h := by
  unfold b_X4_shortCircuit_51 at hf
  exact E_iret (pc := 51) O Z hf ⟨(Nat.le_of_ble_eq_true rfl), (Nat.le_of_ble_eq_true rfl)⟩ dX4_shortCircuit_51
set_option maxHeartbeats 4000000 in
set_option maxRecDepth 100000 in
theorem t_b_X4_shortCircuit_29 {K : Cx} {fr : Bool} {out : (Int32 × MH)} (O : Ok K yX4_shortCircuit.cls cX4_shortCircuit 3 (rmm 2 47 0 0)) (Z : Out K (some .int) fr (some (.int out.1)) out.2) (h : MH) (x0 : Nat) (x1 : Int32) (x2 : Int32) (s0 : Nat) (s1 : Int32) (hf : b_X4_shortCircuit_29 h x0 x1 x2 s0 s1 = some out) : EE K (fr, 0, 0) 29 [some (.ref x0), some (.int x1), some (.int x2)] [.int s1, .ref s0] h := by
  unfold b_X4_shortCircuit_29 at hf
  refine E_put (pc := 29) O FN_RailSequenceModel_28 rfl rfl dX4_shortCircuit_29 hf (fun h1 hf => ?_)
  refine E_aload_n (pc := 32) O 0 dX4_shortCircuit_32 rfl rfl ?_
  refine E_getI (pc := 33) O FL_RailSequenceModel_28 dX4_shortCircuit_33 hf (fun v2 hf => ?_)
  refine E_if_le (pc := 36) O 43 dX4_shortCircuit_36 (by decide) hf (fun hf => ?_) (fun hf => ?_)
  · refine E_aload_n (pc := 43) O 0 dX4_shortCircuit_43 rfl rfl ?_
    refine E_iload_n (pc := 44) O 1 dX4_shortCircuit_44 rfl rfl ?_
    refine E_bipush (pc := 45) O (12 : Int32) dX4_shortCircuit_45 (by decide) ?_
    refine E_iload_n (pc := 47) O 2 dX4_shortCircuit_47 rfl rfl ?_
    refine E_callV_i (pc := 48) (S := []) O [.int x1, .int (12 : Int32), .int x2] CV_RailSequenceModel_120 rfl (fun r e => t_X4_replaced e) dX4_shortCircuit_48 hf rfl ⟨(Nat.le_of_ble_eq_true rfl), (Nat.le_of_ble_eq_true rfl)⟩ ⟨(Nat.le_of_ble_eq_true rfl), (Nat.le_of_ble_eq_true rfl)⟩ (Nat.le_of_ble_eq_true rfl) (fun p3 hf => ?_)
    exact E_sub (L' := [none, none, none]) True.intro (t_b_X4_shortCircuit_51 O Z p3.2 p3.1 hf)
  · refine E_iconst (pc := 39) O (0 : Int32) dX4_shortCircuit_39 (by decide) ?_
    refine E_goto (pc := 40) O 51 dX4_shortCircuit_40 (by decide) ?_
    exact E_sub (L' := [none, none, none]) True.intro (t_b_X4_shortCircuit_51 O Z h1 (0 : Int32) hf)
set_option maxHeartbeats 4000000 in
set_option maxRecDepth 100000 in
theorem t_X4_shortCircuit {g : Gx} {fr : Bool} {h : MH} {x0 x1 x2} {out : (Int32 × MH)} (hf : f_X4_shortCircuit h x0 x1 x2 = some out) : MM g yX4_shortCircuit cX4_shortCircuit 3 (some .int) 2 47 0 0 fr fr [.ref x0, .int x1, .int x2] h (some (.int out.1)) out.2 := by
  unfold f_X4_shortCircuit at hf
  refine MM_of (L := [some (.ref x0), some (.int x1), some (.int x2)]) (by decide) (Nat.le_of_ble_eq_true rfl) rfl (fun K hK O Z hn => ?_)
  refine E_aload_n (pc := 0) O 0 dX4_shortCircuit_0 rfl rfl ?_
  refine E_aload_n (pc := 1) O 0 dX4_shortCircuit_1 rfl rfl ?_
  refine E_iload_n (pc := 2) O 1 dX4_shortCircuit_2 rfl rfl ?_
  refine E_callV_iP (pc := 3) (S := [.ref x0]) O [.int x1] CV_RailSequenceModel_117 rfl (fun r e => t_X4_isRail e) dX4_shortCircuit_3 hf rfl ⟨(Nat.le_of_ble_eq_true rfl), (Nat.le_of_ble_eq_true rfl)⟩ ⟨(Nat.le_of_ble_eq_true rfl), (Nat.le_of_ble_eq_true rfl)⟩ (Nat.le_of_ble_eq_true rfl) (fun v4 hf => ?_)
  refine E_if_ne (pc := 6) O 13 dX4_shortCircuit_6 (by decide) hf (fun hf => ?_) (fun hf => ?_)
  · refine E_iload_n (pc := 13) O 2 dX4_shortCircuit_13 rfl rfl ?_
    refine E_iconst (pc := 14) O (0 : Int32) dX4_shortCircuit_14 (by decide) ?_
    refine E_sipush (pc := 15) O (500 : Int32) dX4_shortCircuit_15 (by decide) ?_
    refine E_callS_iP (pc := 18) (S := [.ref x0]) O [.int x2, .int (0 : Int32), .int (500 : Int32)] CS_RailSequenceModel_32 (fun r e => t_X4_within e) dX4_shortCircuit_18 hf rfl ⟨(Nat.le_of_ble_eq_true rfl), (Nat.le_of_ble_eq_true rfl)⟩ ⟨(Nat.le_of_ble_eq_true rfl), (Nat.le_of_ble_eq_true rfl)⟩ (Nat.le_of_ble_eq_true rfl) (fun v5 hf => ?_)
    refine E_if_eq (pc := 21) O 28 dX4_shortCircuit_21 (by decide) hf (fun hf => ?_) (fun hf => ?_)
    · refine E_iconst (pc := 28) O (2 : Int32) dX4_shortCircuit_28 (by decide) ?_
      exact t_b_X4_shortCircuit_29 O Z h x0 x1 x2 x0 (2 : Int32) hf
    · refine E_iconst (pc := 24) O (0 : Int32) dX4_shortCircuit_24 (by decide) ?_
      refine E_goto (pc := 25) O 29 dX4_shortCircuit_25 (by decide) ?_
      exact t_b_X4_shortCircuit_29 O Z h x0 x1 x2 x0 (0 : Int32) hf
  · refine E_iconst (pc := 9) O (1 : Int32) dX4_shortCircuit_9 (by decide) ?_
    refine E_goto (pc := 10) O 29 dX4_shortCircuit_10 (by decide) ?_
    exact t_b_X4_shortCircuit_29 O Z h x0 x1 x2 x0 (1 : Int32) hf
set_option maxHeartbeats 4000000 in
set_option maxRecDepth 100000 in
theorem t_b_X4_stick_49 {K : Cx} {fr : Bool} {out : (Int32 × MH)} (O : Ok K yX4_stick.cls cX4_stick 3 (rmm 2 47 0 0)) (Z : Out K (some .int) fr (some (.int out.1)) out.2) (h : MH) (s0 : Int32) (hf : b_X4_stick_49 h s0 = some out) : EE K (fr, 0, 0) 49 [none, none, none] [.int s0] h := by
  unfold b_X4_stick_49 at hf
  exact E_iret (pc := 49) O Z hf ⟨(Nat.le_of_ble_eq_true rfl), (Nat.le_of_ble_eq_true rfl)⟩ dX4_stick_49
set_option maxHeartbeats 4000000 in
set_option maxRecDepth 100000 in
theorem t_b_X4_stick_27 {K : Cx} {fr : Bool} {out : (Int32 × MH)} (O : Ok K yX4_stick.cls cX4_stick 3 (rmm 2 47 0 0)) (Z : Out K (some .int) fr (some (.int out.1)) out.2) (h : MH) (x0 : Nat) (x1 : Int32) (x2 : Int32) (s0 : Nat) (s1 : Int32) (hf : b_X4_stick_27 h x0 x1 x2 s0 s1 = some out) : EE K (fr, 0, 0) 27 [some (.ref x0), some (.int x1), some (.int x2)] [.int s1, .ref s0] h := by
  unfold b_X4_stick_27 at hf
  refine E_put (pc := 27) O FN_RailSequenceModel_28 rfl rfl dX4_stick_27 hf (fun h1 hf => ?_)
  refine E_aload_n (pc := 30) O 0 dX4_stick_30 rfl rfl ?_
  refine E_getI (pc := 31) O FL_RailSequenceModel_28 dX4_stick_31 hf (fun v2 hf => ?_)
  refine E_if_le (pc := 34) O 41 dX4_stick_34 (by decide) hf (fun hf => ?_) (fun hf => ?_)
  · refine E_aload_n (pc := 41) O 0 dX4_stick_41 rfl rfl ?_
    refine E_iload_n (pc := 42) O 1 dX4_stick_42 rfl rfl ?_
    refine E_bipush (pc := 43) O (11 : Int32) dX4_stick_43 (by decide) ?_
    refine E_iload_n (pc := 45) O 2 dX4_stick_45 rfl rfl ?_
    refine E_callV_i (pc := 46) (S := []) O [.int x1, .int (11 : Int32), .int x2] CV_RailSequenceModel_120 rfl (fun r e => t_X4_replaced e) dX4_stick_46 hf rfl ⟨(Nat.le_of_ble_eq_true rfl), (Nat.le_of_ble_eq_true rfl)⟩ ⟨(Nat.le_of_ble_eq_true rfl), (Nat.le_of_ble_eq_true rfl)⟩ (Nat.le_of_ble_eq_true rfl) (fun p3 hf => ?_)
    exact E_sub (L' := [none, none, none]) True.intro (t_b_X4_stick_49 O Z p3.2 p3.1 hf)
  · refine E_iconst (pc := 37) O (0 : Int32) dX4_stick_37 (by decide) ?_
    refine E_goto (pc := 38) O 49 dX4_stick_38 (by decide) ?_
    exact E_sub (L' := [none, none, none]) True.intro (t_b_X4_stick_49 O Z h1 (0 : Int32) hf)
set_option maxHeartbeats 4000000 in
set_option maxRecDepth 100000 in
theorem t_X4_stick {g : Gx} {fr : Bool} {h : MH} {x0 x1 x2} {out : (Int32 × MH)} (hf : f_X4_stick h x0 x1 x2 = some out) : MM g yX4_stick cX4_stick 3 (some .int) 2 47 0 0 fr fr [.ref x0, .int x1, .int x2] h (some (.int out.1)) out.2 := by
  unfold f_X4_stick at hf
  refine MM_of (L := [some (.ref x0), some (.int x1), some (.int x2)]) (by decide) (Nat.le_of_ble_eq_true rfl) rfl (fun K hK O Z hn => ?_)
  refine E_aload_n (pc := 0) O 0 dX4_stick_0 rfl rfl ?_
  refine E_aload_n (pc := 1) O 0 dX4_stick_1 rfl rfl ?_
  refine E_iload_n (pc := 2) O 1 dX4_stick_2 rfl rfl ?_
  refine E_callV_iP (pc := 3) (S := [.ref x0]) O [.int x1] CV_RailSequenceModel_117 rfl (fun r e => t_X4_isRail e) dX4_stick_3 hf rfl ⟨(Nat.le_of_ble_eq_true rfl), (Nat.le_of_ble_eq_true rfl)⟩ ⟨(Nat.le_of_ble_eq_true rfl), (Nat.le_of_ble_eq_true rfl)⟩ (Nat.le_of_ble_eq_true rfl) (fun v4 hf => ?_)
  refine E_if_ne (pc := 6) O 13 dX4_stick_6 (by decide) hf (fun hf => ?_) (fun hf => ?_)
  · refine E_iload_n (pc := 13) O 2 dX4_stick_13 rfl rfl ?_
    refine E_iconst (pc := 14) O (0 : Int32) dX4_stick_14 (by decide) ?_
    refine E_iconst (pc := 15) O (2 : Int32) dX4_stick_15 (by decide) ?_
    refine E_callS_iP (pc := 16) (S := [.ref x0]) O [.int x2, .int (0 : Int32), .int (2 : Int32)] CS_RailSequenceModel_32 (fun r e => t_X4_within e) dX4_stick_16 hf rfl ⟨(Nat.le_of_ble_eq_true rfl), (Nat.le_of_ble_eq_true rfl)⟩ ⟨(Nat.le_of_ble_eq_true rfl), (Nat.le_of_ble_eq_true rfl)⟩ (Nat.le_of_ble_eq_true rfl) (fun v5 hf => ?_)
    refine E_if_eq (pc := 19) O 26 dX4_stick_19 (by decide) hf (fun hf => ?_) (fun hf => ?_)
    · refine E_iconst (pc := 26) O (2 : Int32) dX4_stick_26 (by decide) ?_
      exact t_b_X4_stick_27 O Z h x0 x1 x2 x0 (2 : Int32) hf
    · refine E_iconst (pc := 22) O (0 : Int32) dX4_stick_22 (by decide) ?_
      refine E_goto (pc := 23) O 27 dX4_stick_23 (by decide) ?_
      exact t_b_X4_stick_27 O Z h x0 x1 x2 x0 (0 : Int32) hf
  · refine E_iconst (pc := 9) O (1 : Int32) dX4_stick_9 (by decide) ?_
    refine E_goto (pc := 10) O 27 dX4_stick_10 (by decide) ?_
    exact t_b_X4_stick_27 O Z h x0 x1 x2 x0 (1 : Int32) hf
set_option maxHeartbeats 4000000 in
set_option maxRecDepth 100000 in
theorem t_b_X4_tick_58 {K : Cx} {fr : Bool} {out : (Int32 × MH)} (O : Ok K yX4_tick.cls cX4_tick 3 (rmm 7 155 0 0)) (Z : Out K (some .int) fr (some (.int out.1)) out.2) (rec58 : MH → Nat → Int32 → Int32 → Option (Int32 × MH)) (hr58 : ∀ (h : MH) (x0 : Nat) (x1 : Int32) (x2 : Int32), rec58 h x0 x1 x2 = some out → EE K (fr, 0, 0) 58 [some (.ref x0), some (.int x1), some (.int x2)] [] h) (h : MH) (x0 : Nat) (x1 : Int32) (x2 : Int32) (hf : b_X4_tick_58 rec58 h x0 x1 x2 = some out) : EE K (fr, 0, 0) 58 [some (.ref x0), some (.int x1), some (.int x2)] [] h := by
  unfold b_X4_tick_58 at hf
  refine E_iload_n (pc := 58) O 2 dX4_tick_58 rfl rfl ?_
  refine E_iload_n (pc := 59) O 1 dX4_tick_59 rfl rfl ?_
  refine E_icmp_ge (pc := 60) O 73 dX4_tick_60 (by decide) hf (fun hf => ?_) (fun hf => ?_)
  · refine E_aload_n (pc := 73) O 0 dX4_tick_73 rfl rfl ?_
    refine E_getI (pc := 74) O FL_RailSequenceModel_44 dX4_tick_74 hf (fun v1 hf => ?_)
    exact E_iret (pc := 77) O Z hf ⟨(Nat.le_of_ble_eq_true rfl), (Nat.le_of_ble_eq_true rfl)⟩ dX4_tick_77
  · refine E_aload_n (pc := 63) O 0 dX4_tick_63 rfl rfl ?_
    refine E_callV_v (pc := 64) (S := []) O [] CV_RailSequenceModel_132 rfl (fun r e => t_X4_pass e) dX4_tick_64 hf rfl ⟨(Nat.le_of_ble_eq_true rfl), (Nat.le_of_ble_eq_true rfl)⟩ ⟨(Nat.le_of_ble_eq_true rfl), (Nat.le_of_ble_eq_true rfl)⟩ (Nat.le_of_ble_eq_true rfl) (fun h2 hf => ?_)
    refine E_iinc (pc := 67) O (1 : Int32) [some (.ref x0), some (.int x1), some (.int (x2 + (1 : Int32)))] dX4_tick_67 rfl (by decide) rfl (by decide) rfl ?_
    refine E_goto (pc := 70) O 58 dX4_tick_70 (by decide) ?_
    exact hr58 h2 x0 x1 (x2 + (1 : Int32)) hf
theorem t_f_X4_tick_58 {K : Cx} {fr : Bool} {out : (Int32 × MH)} (O : Ok K yX4_tick.cls cX4_tick 3 (rmm 7 155 0 0)) (Z : Out K (some .int) fr (some (.int out.1)) out.2) : ∀ (n : Nat) (h : MH) (x0 : Nat) (x1 : Int32) (x2 : Int32), f_X4_tick_58 n h x0 x1 x2 = some out → EE K (fr, 0, 0) 58 [some (.ref x0), some (.int x1), some (.int x2)] [] h := by
  intro n
  induction n with
  | zero => intro h x0 x1 x2 hf; cases hf
  | succ n ih => intro h x0 x1 x2 hf; exact t_b_X4_tick_58 O Z _ ih h x0 x1 x2 hf
set_option maxHeartbeats 4000000 in
set_option maxRecDepth 100000 in
theorem t_b_X4_tick_35 {K : Cx} {fr : Bool} {out : (Int32 × MH)} (O : Ok K yX4_tick.cls cX4_tick 3 (rmm 7 155 0 0)) (Z : Out K (some .int) fr (some (.int out.1)) out.2) (h : MH) (x0 : Nat) (x1 : Int32) (s0 : Nat) (s1 : Int32) (hf : b_X4_tick_35 h x0 x1 s0 s1 = some out) : EE K (fr, 0, 0) 35 [some (.ref x0), some (.int x1), none] [.int s1, .ref s0] h := by
  unfold b_X4_tick_35 at hf
  refine E_put (pc := 35) O FN_RailSequenceModel_28 rfl rfl dX4_tick_35 hf (fun h3 hf => ?_)
  refine E_aload_n (pc := 38) O 0 dX4_tick_38 rfl rfl ?_
  refine E_getI (pc := 39) O FL_RailSequenceModel_28 dX4_tick_39 hf (fun v4 hf => ?_)
  refine E_if_le (pc := 42) O 47 dX4_tick_42 (by decide) hf (fun hf => ?_) (fun hf => ?_)
  · refine E_aload_n (pc := 47) O 0 dX4_tick_47 rfl rfl ?_
    refine E_callV_v (pc := 48) (S := []) O [] CV_RailSequenceModel_110 rfl (fun r e => t_X4_save e) dX4_tick_48 hf rfl ⟨(Nat.le_of_ble_eq_true rfl), (Nat.le_of_ble_eq_true rfl)⟩ ⟨(Nat.le_of_ble_eq_true rfl), (Nat.le_of_ble_eq_true rfl)⟩ (Nat.le_of_ble_eq_true rfl) (fun h5 hf => ?_)
    refine E_aload_n (pc := 51) O 0 dX4_tick_51 rfl rfl ?_
    refine E_iconst (pc := 52) O (0 : Int32) dX4_tick_52 (by decide) ?_
    refine E_put (pc := 53) O FN_RailSequenceModel_44 rfl rfl dX4_tick_53 hf (fun h6 hf => ?_)
    refine E_iconst (pc := 56) O (0 : Int32) dX4_tick_56 (by decide) ?_
    refine E_istore_n (pc := 57) O 2 [some (.ref x0), some (.int x1), some (.int (0 : Int32))] dX4_tick_57 rfl (by decide) rfl rfl ?_
    exact t_f_X4_tick_58 O Z FU h6 x0 x1 (0 : Int32) hf
  · refine E_iconst (pc := 45) O (0 : Int32) dX4_tick_45 (by decide) ?_
    exact E_iret (pc := 46) O Z hf ⟨(Nat.le_of_ble_eq_true rfl), (Nat.le_of_ble_eq_true rfl)⟩ dX4_tick_46
set_option maxHeartbeats 4000000 in
set_option maxRecDepth 100000 in
theorem t_X4_tick {g : Gx} {fr : Bool} {h : MH} {x0 x1} {out : (Int32 × MH)} (hf : f_X4_tick h x0 x1 = some out) : MM g yX4_tick cX4_tick 3 (some .int) 7 155 0 0 fr fr [.ref x0, .int x1] h (some (.int out.1)) out.2 := by
  unfold f_X4_tick at hf
  refine MM_of (L := [some (.ref x0), some (.int x1), none]) (by decide) (Nat.le_of_ble_eq_true rfl) rfl (fun K hK O Z hn => ?_)
  refine E_aload_n (pc := 0) O 0 dX4_tick_0 rfl rfl ?_
  refine E_iload_n (pc := 1) O 1 dX4_tick_1 rfl rfl ?_
  refine E_iconst (pc := 2) O (1 : Int32) dX4_tick_2 (by decide) ?_
  refine E_sipush (pc := 3) O (200 : Int32) dX4_tick_3 (by decide) ?_
  refine E_callS_iP (pc := 6) (S := [.ref x0]) O [.int x1, .int (1 : Int32), .int (200 : Int32)] CS_RailSequenceModel_32 (fun r e => t_X4_within e) dX4_tick_6 hf rfl ⟨(Nat.le_of_ble_eq_true rfl), (Nat.le_of_ble_eq_true rfl)⟩ ⟨(Nat.le_of_ble_eq_true rfl), (Nat.le_of_ble_eq_true rfl)⟩ (Nat.le_of_ble_eq_true rfl) (fun v7 hf => ?_)
  refine E_if_ne (pc := 9) O 16 dX4_tick_9 (by decide) hf (fun hf => ?_) (fun hf => ?_)
  · refine E_aload_n (pc := 16) O 0 dX4_tick_16 rfl rfl ?_
    refine E_getR (pc := 17) O FL_RailSequenceModel_7 dX4_tick_17 hf (fun v8 hf => ?_)
    refine E_iconst (pc := 20) O (2 : Int32) dX4_tick_20 (by decide) ?_
    refine E_iaload (pc := 21) O dX4_tick_21 hf (fun v9 hf => ?_)
    refine E_iload_n (pc := 22) O 1 dX4_tick_22 rfl rfl ?_
    refine E_iadd (pc := 23) O dX4_tick_23 ?_
    refine E_sipush (pc := 24) O (20000 : Int32) dX4_tick_24 (by decide) ?_
    refine E_icmp_le (pc := 27) O 34 dX4_tick_27 (by decide) hf (fun hf => ?_) (fun hf => ?_)
    · refine E_iconst (pc := 34) O (0 : Int32) dX4_tick_34 (by decide) ?_
      exact t_b_X4_tick_35 O Z h x0 x1 x0 (0 : Int32) hf
    · refine E_iconst (pc := 30) O (2 : Int32) dX4_tick_30 (by decide) ?_
      refine E_goto (pc := 31) O 35 dX4_tick_31 (by decide) ?_
      exact t_b_X4_tick_35 O Z h x0 x1 x0 (2 : Int32) hf
  · refine E_iconst (pc := 12) O (1 : Int32) dX4_tick_12 (by decide) ?_
    refine E_goto (pc := 13) O 35 dX4_tick_13 (by decide) ?_
    exact t_b_X4_tick_35 O Z h x0 x1 x0 (1 : Int32) hf
set_option maxHeartbeats 4000000 in
set_option maxRecDepth 100000 in
theorem t_b_X4_append_30 {K : Cx} {fr : Bool} {out : (Int32 × MH)} (O : Ok K yX4_append.cls cX4_append 2 (rmm 1 22 0 0)) (Z : Out K (some .int) fr (some (.int out.1)) out.2) (h : MH) (x0 : Nat) (x1 : Int32) (s0 : Nat) (s1 : Int32) (hf : b_X4_append_30 h x0 x1 s0 s1 = some out) : EE K (fr, 0, 0) 30 [some (.ref x0), some (.int x1)] [.int s1, .ref s0] h := by
  unfold b_X4_append_30 at hf
  refine E_put (pc := 30) O FN_RailSequenceModel_28 rfl rfl dX4_append_30 hf (fun h1 hf => ?_)
  refine E_aload_n (pc := 33) O 0 dX4_append_33 rfl rfl ?_
  refine E_getI (pc := 34) O FL_RailSequenceModel_28 dX4_append_34 hf (fun v2 hf => ?_)
  refine E_if_le (pc := 37) O 42 dX4_append_37 (by decide) hf (fun hf => ?_) (fun hf => ?_)
  · refine E_aload_n (pc := 42) O 0 dX4_append_42 rfl rfl ?_
    refine E_getR (pc := 43) O FL_RailSequenceModel_16 dX4_append_43 hf (fun v3 hf => ?_)
    refine E_aload_n (pc := 46) O 0 dX4_append_46 rfl rfl ?_
    refine E_getI (pc := 47) O FL_RailSequenceModel_135 dX4_append_47 hf (fun v4 hf => ?_)
    refine E_iload_n (pc := 50) O 1 dX4_append_50 rfl rfl ?_
    refine E_iastore (pc := 51) O dX4_append_51 hf (fun h5 hf => ?_)
    refine E_aload_n (pc := 52) O 0 dX4_append_52 rfl rfl ?_
    refine E_dup (pc := 53) O dX4_append_53 rfl ?_
    refine E_getI (pc := 54) O FL_RailSequenceModel_135 dX4_append_54 hf (fun v6 hf => ?_)
    refine E_iconst (pc := 57) O (1 : Int32) dX4_append_57 (by decide) ?_
    refine E_iadd (pc := 58) O dX4_append_58 ?_
    refine E_put (pc := 59) O FN_RailSequenceModel_135 rfl rfl dX4_append_59 hf (fun h7 hf => ?_)
    refine E_aload_n (pc := 62) O 0 dX4_append_62 rfl rfl ?_
    refine E_getI (pc := 63) O FL_RailSequenceModel_135 dX4_append_63 hf (fun v8 hf => ?_)
    exact E_iret (pc := 66) O Z hf ⟨(Nat.le_of_ble_eq_true rfl), (Nat.le_of_ble_eq_true rfl)⟩ dX4_append_66
  · refine E_iconst (pc := 40) O (0 : Int32) dX4_append_40 (by decide) ?_
    exact E_iret (pc := 41) O Z hf ⟨(Nat.le_of_ble_eq_true rfl), (Nat.le_of_ble_eq_true rfl)⟩ dX4_append_41
set_option maxHeartbeats 4000000 in
set_option maxRecDepth 100000 in
theorem t_X4_append {g : Gx} {fr : Bool} {h : MH} {x0 x1} {out : (Int32 × MH)} (hf : f_X4_append h x0 x1 = some out) : MM g yX4_append cX4_append 2 (some .int) 1 22 0 0 fr fr [.ref x0, .int x1] h (some (.int out.1)) out.2 := by
  unfold f_X4_append at hf
  refine MM_of (L := [some (.ref x0), some (.int x1)]) (by decide) (Nat.le_of_ble_eq_true rfl) rfl (fun K hK O Z hn => ?_)
  refine E_aload_n (pc := 0) O 0 dX4_append_0 rfl rfl ?_
  refine E_iload_n (pc := 1) O 1 dX4_append_1 rfl rfl ?_
  refine E_bipush (pc := 2) O (33 : Int32) dX4_append_2 (by decide) ?_
  refine E_bipush (pc := 4) O (126 : Int32) dX4_append_4 (by decide) ?_
  refine E_callS_iP (pc := 6) (S := [.ref x0]) O [.int x1, .int (33 : Int32), .int (126 : Int32)] CS_RailSequenceModel_32 (fun r e => t_X4_within e) dX4_append_6 hf rfl ⟨(Nat.le_of_ble_eq_true rfl), (Nat.le_of_ble_eq_true rfl)⟩ ⟨(Nat.le_of_ble_eq_true rfl), (Nat.le_of_ble_eq_true rfl)⟩ (Nat.le_of_ble_eq_true rfl) (fun v9 hf => ?_)
  refine E_if_ne (pc := 9) O 16 dX4_append_9 (by decide) hf (fun hf => ?_) (fun hf => ?_)
  · refine E_aload_n (pc := 16) O 0 dX4_append_16 rfl rfl ?_
    refine E_getI (pc := 17) O FL_RailSequenceModel_135 dX4_append_17 hf (fun v10 hf => ?_)
    refine E_bipush (pc := 20) O (60 : Int32) dX4_append_20 (by decide) ?_
    refine E_icmp_ne (pc := 22) O 29 dX4_append_22 (by decide) hf (fun hf => ?_) (fun hf => ?_)
    · refine E_iconst (pc := 29) O (0 : Int32) dX4_append_29 (by decide) ?_
      exact t_b_X4_append_30 O Z h x0 x1 x0 (0 : Int32) hf
    · refine E_iconst (pc := 25) O (2 : Int32) dX4_append_25 (by decide) ?_
      refine E_goto (pc := 26) O 30 dX4_append_26 (by decide) ?_
      exact t_b_X4_append_30 O Z h x0 x1 x0 (2 : Int32) hf
  · refine E_iconst (pc := 12) O (1 : Int32) dX4_append_12 (by decide) ?_
    refine E_goto (pc := 13) O 30 dX4_append_13 (by decide) ?_
    exact t_b_X4_append_30 O Z h x0 x1 x0 (1 : Int32) hf
set_option maxHeartbeats 4000000 in
set_option maxRecDepth 100000 in
theorem t_X4_clearBuffer {g : Gx} {fr : Bool} {h : MH} {x0} {out : (Int32 × MH)} (hf : f_X4_clearBuffer h x0 = some out) : MM g yX4_clearBuffer cX4_clearBuffer 2 (some .int) 0 0 0 0 fr fr [.ref x0] h (some (.int out.1)) out.2 := by
  unfold f_X4_clearBuffer at hf
  refine MM_of (L := [some (.ref x0), none]) (by decide) (Nat.le_of_ble_eq_true rfl) rfl (fun K hK O Z hn => ?_)
  refine E_aload_n (pc := 0) O 0 dX4_clearBuffer_0 rfl rfl ?_
  refine E_iconst (pc := 1) O (0 : Int32) dX4_clearBuffer_1 (by decide) ?_
  refine E_put (pc := 2) O FN_RailSequenceModel_28 rfl rfl dX4_clearBuffer_2 hf (fun h1 hf => ?_)
  refine E_aload_n (pc := 5) O 0 dX4_clearBuffer_5 rfl rfl ?_
  refine E_getI (pc := 6) O FL_RailSequenceModel_135 dX4_clearBuffer_6 hf (fun v2 hf => ?_)
  refine E_istore_n (pc := 9) O 1 [some (.ref x0), some (.int v2)] dX4_clearBuffer_9 rfl (by decide) rfl rfl ?_
  refine E_aload_n (pc := 10) O 0 dX4_clearBuffer_10 rfl rfl ?_
  refine E_iconst (pc := 11) O (0 : Int32) dX4_clearBuffer_11 (by decide) ?_
  refine E_put (pc := 12) O FN_RailSequenceModel_135 rfl rfl dX4_clearBuffer_12 hf (fun h3 hf => ?_)
  refine E_iload_n (pc := 15) O 1 dX4_clearBuffer_15 rfl rfl ?_
  exact E_iret (pc := 16) O Z hf ⟨(Nat.le_of_ble_eq_true rfl), (Nat.le_of_ble_eq_true rfl)⟩ dX4_clearBuffer_16
set_option maxHeartbeats 4000000 in
set_option maxRecDepth 100000 in
theorem t_b_X4_beginRail_17 {K : Cx} {fr : Bool} {out : MH} (O : Ok K yX4_beginRail.cls cX4_beginRail 2 (rmm 0 0 0 0)) (Z : Out K none fr none out) (rec17 : MH → Nat → Int32 → Option MH) (hr17 : ∀ (h : MH) (x0 : Nat) (x1 : Int32), rec17 h x0 x1 = some out → EE K (fr, 0, 0) 17 [some (.ref x0), some (.int x1)] [] h) (h : MH) (x0 : Nat) (x1 : Int32) (hf : b_X4_beginRail_17 rec17 h x0 x1 = some out) : EE K (fr, 0, 0) 17 [some (.ref x0), some (.int x1)] [] h := by
  unfold b_X4_beginRail_17 at hf
  refine E_iload_n (pc := 17) O 1 dX4_beginRail_17 rfl rfl ?_
  refine E_iconst (pc := 18) O (4 : Int32) dX4_beginRail_18 (by decide) ?_
  refine E_icmp_ge (pc := 19) O 42 dX4_beginRail_19 (by decide) hf (fun hf => ?_) (fun hf => ?_)
  · exact E_vret (pc := 42) O Z hf ⟨(Nat.le_of_ble_eq_true rfl), (Nat.le_of_ble_eq_true rfl)⟩ dX4_beginRail_42
  · refine E_aload_n (pc := 22) O 0 dX4_beginRail_22 rfl rfl ?_
    refine E_getR (pc := 23) O FL_RailSequenceModel_25 dX4_beginRail_23 hf (fun v1 hf => ?_)
    refine E_iconst (pc := 26) O (4 : Int32) dX4_beginRail_26 (by decide) ?_
    refine E_aload_n (pc := 27) O 0 dX4_beginRail_27 rfl rfl ?_
    refine E_getI (pc := 28) O FL_RailSequenceModel_147 dX4_beginRail_28 hf (fun v2 hf => ?_)
    refine E_imul (pc := 31) O dX4_beginRail_31 ?_
    refine E_iload_n (pc := 32) O 1 dX4_beginRail_32 rfl rfl ?_
    refine E_iadd (pc := 33) O dX4_beginRail_33 ?_
    refine E_iconst (pc := 34) O (0 : Int32) dX4_beginRail_34 (by decide) ?_
    refine E_iastore (pc := 35) O dX4_beginRail_35 hf (fun h3 hf => ?_)
    refine E_iinc (pc := 36) O (1 : Int32) [some (.ref x0), some (.int (x1 + (1 : Int32)))] dX4_beginRail_36 rfl (by decide) rfl (by decide) rfl ?_
    refine E_goto (pc := 39) O 17 dX4_beginRail_39 (by decide) ?_
    exact hr17 h3 x0 (x1 + (1 : Int32)) hf
theorem t_f_X4_beginRail_17 {K : Cx} {fr : Bool} {out : MH} (O : Ok K yX4_beginRail.cls cX4_beginRail 2 (rmm 0 0 0 0)) (Z : Out K none fr none out) : ∀ (n : Nat) (h : MH) (x0 : Nat) (x1 : Int32), f_X4_beginRail_17 n h x0 x1 = some out → EE K (fr, 0, 0) 17 [some (.ref x0), some (.int x1)] [] h := by
  intro n
  induction n with
  | zero => intro h x0 x1 hf; cases hf
  | succ n ih => intro h x0 x1 hf; exact t_b_X4_beginRail_17 O Z _ ih h x0 x1 hf
set_option maxHeartbeats 4000000 in
set_option maxRecDepth 100000 in
theorem t_X4_beginRail {g : Gx} {fr : Bool} {h : MH} {x0} {out : MH} (hf : f_X4_beginRail h x0 = some out) : MM g yX4_beginRail cX4_beginRail 2 none 0 0 0 0 fr fr [.ref x0] h none out := by
  unfold f_X4_beginRail at hf
  refine MM_of (L := [some (.ref x0), none]) (by decide) (Nat.le_of_ble_eq_true rfl) rfl (fun K hK O Z hn => ?_)
  refine E_aload_n (pc := 0) O 0 dX4_beginRail_0 rfl rfl ?_
  refine E_iconst (pc := 1) O (0 : Int32) dX4_beginRail_1 (by decide) ?_
  refine E_put (pc := 2) O FN_RailSequenceModel_138 rfl rfl dX4_beginRail_2 hf (fun h4 hf => ?_)
  refine E_aload_n (pc := 5) O 0 dX4_beginRail_5 rfl rfl ?_
  refine E_iconst (pc := 6) O (0 : Int32) dX4_beginRail_6 (by decide) ?_
  refine E_put (pc := 7) O FN_RailSequenceModel_141 rfl rfl dX4_beginRail_7 hf (fun h5 hf => ?_)
  refine E_aload_n (pc := 10) O 0 dX4_beginRail_10 rfl rfl ?_
  refine E_iconst (pc := 11) O (-1 : Int32) dX4_beginRail_11 (by decide) ?_
  refine E_put (pc := 12) O FN_RailSequenceModel_144 rfl rfl dX4_beginRail_12 hf (fun h6 hf => ?_)
  refine E_iconst (pc := 15) O (0 : Int32) dX4_beginRail_15 (by decide) ?_
  refine E_istore_n (pc := 16) O 1 [some (.ref x0), some (.int (0 : Int32))] dX4_beginRail_16 rfl (by decide) rfl rfl ?_
  exact t_f_X4_beginRail_17 O Z FU h6 x0 (0 : Int32) hf
set_option maxHeartbeats 4000000 in
set_option maxRecDepth 100000 in
theorem t_b_X4_least_13 {K : Cx} {fr : Bool} {out : Int32} {h : MH} (O : Ok K yX4_least.cls cX4_least 1 (rmm 0 0 0 0)) (Z : Out K (some .int) fr (some (.int out)) h) (s0 : Int32) (hf : b_X4_least_13 h s0 = some out) : EE K (fr, 0, 0) 13 [none] [.int s0] h := by
  unfold b_X4_least_13 at hf
  exact E_iretP (pc := 13) O Z hf ⟨(Nat.le_of_ble_eq_true rfl), (Nat.le_of_ble_eq_true rfl)⟩ dX4_least_13
set_option maxHeartbeats 4000000 in
set_option maxRecDepth 100000 in
theorem t_X4_least {g : Gx} {fr : Bool} {h : MH} {x0} {out : Int32} (hf : f_X4_least h x0 = some out) : MM g yX4_least cX4_least 1 (some .int) 0 0 0 0 fr fr [.ref x0] h (some (.int out)) h := by
  unfold f_X4_least at hf
  refine MM_of (L := [some (.ref x0)]) (by decide) (Nat.le_of_ble_eq_true rfl) rfl (fun K hK O Z hn => ?_)
  refine E_aload_n (pc := 0) O 0 dX4_least_0 rfl rfl ?_
  refine E_getI (pc := 1) O FL_RailSequenceModel_138 dX4_least_1 hf (fun v1 hf => ?_)
  refine E_if_ne (pc := 4) O 12 dX4_least_4 (by decide) hf (fun hf => ?_) (fun hf => ?_)
  · refine E_iconst (pc := 12) O (1 : Int32) dX4_least_12 (by decide) ?_
    exact E_sub (L' := [none]) True.intro (t_b_X4_least_13 O Z (1 : Int32) hf)
  · refine E_bipush (pc := 7) O (100 : Int32) dX4_least_7 (by decide) ?_
    refine E_goto (pc := 9) O 13 dX4_least_9 (by decide) ?_
    exact E_sub (L' := [none]) True.intro (t_b_X4_least_13 O Z (100 : Int32) hf)
