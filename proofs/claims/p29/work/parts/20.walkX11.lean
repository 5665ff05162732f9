/-! walks: the machine does what the plain functions say: written by program -/
set_option maxHeartbeats 4000000 in
set_option maxRecDepth 100000 in
theorem t_b_X1_isAnyShorted_2 {K : Cx} {fr : Bool} {out : Int32} {h : MH} (O : Ok K yX1_isAnyShorted.cls cX1_isAnyShorted 2 (rmm 0 0 0 0)) (Z : Out K (some .boolean) fr (some (.int out)) h) (rec2 : Nat → Int32 → Option Int32) (hr2 : ∀ (x0 : Nat) (x1 : Int32), rec2 x0 x1 = some out → EE K (fr, 0, 0) 2 [some (.ref x0), some (.int x1)] [] h) (x0 : Nat) (x1 : Int32) (hf : b_X1_isAnyShorted_2 h rec2 x0 x1 = some out) : EE K (fr, 0, 0) 2 [some (.ref x0), some (.int x1)] [] h := by
  unfold b_X1_isAnyShorted_2 at hf
  refine E_iload_n (pc := 2) O 1 dX1_isAnyShorted_2 rfl rfl ?_
  refine E_aload_n (pc := 3) O 0 dX1_isAnyShorted_3 rfl rfl ?_
  refine E_getI (pc := 4) O FL_RailSequence_Plant_62 dX1_isAnyShorted_4 hf (fun v1 hf => ?_)
  refine E_icmp_ge (pc := 7) O 27 dX1_isAnyShorted_7 (by decide) hf (fun hf => ?_) (fun hf => ?_)
  · refine E_iconst (pc := 27) O (0 : Int32) dX1_isAnyShorted_27 (by decide) ?_
    exact E_zretP (pc := 28) O Z hf ⟨(Nat.le_of_ble_eq_true rfl), (Nat.le_of_ble_eq_true rfl)⟩ dX1_isAnyShorted_28
  · refine E_aload_n (pc := 10) O 0 dX1_isAnyShorted_10 rfl rfl ?_
    refine E_getR (pc := 11) O FL_RailSequence_Plant_31 dX1_isAnyShorted_11 hf (fun v2 hf => ?_)
    refine E_iload_n (pc := 14) O 1 dX1_isAnyShorted_14 rfl rfl ?_
    refine E_iaload (pc := 15) O dX1_isAnyShorted_15 hf (fun v3 hf => ?_)
    refine E_if_le (pc := 16) O 21 dX1_isAnyShorted_16 (by decide) hf (fun hf => ?_) (fun hf => ?_)
    · refine E_iinc (pc := 21) O (1 : Int32) [some (.ref x0), some (.int (x1 + (1 : Int32)))] dX1_isAnyShorted_21 rfl (by decide) rfl (by decide) rfl ?_
      refine E_goto (pc := 24) O 2 dX1_isAnyShorted_24 (by decide) ?_
      exact hr2 x0 (x1 + (1 : Int32)) hf
    · refine E_iconst (pc := 19) O (1 : Int32) dX1_isAnyShorted_19 (by decide) ?_
      exact E_zretP (pc := 20) O Z hf ⟨(Nat.le_of_ble_eq_true rfl), (Nat.le_of_ble_eq_true rfl)⟩ dX1_isAnyShorted_20
theorem t_f_X1_isAnyShorted_2 {K : Cx} {fr : Bool} {out : Int32} {h : MH} (O : Ok K yX1_isAnyShorted.cls cX1_isAnyShorted 2 (rmm 0 0 0 0)) (Z : Out K (some .boolean) fr (some (.int out)) h) : ∀ (n : Nat) (x0 : Nat) (x1 : Int32), f_X1_isAnyShorted_2 h n x0 x1 = some out → EE K (fr, 0, 0) 2 [some (.ref x0), some (.int x1)] [] h := by
  intro n
  induction n with
  | zero => intro x0 x1 hf; cases hf
  | succ n ih => intro x0 x1 hf; exact t_b_X1_isAnyShorted_2 O Z _ ih x0 x1 hf
set_option maxHeartbeats 4000000 in
set_option maxRecDepth 100000 in
theorem t_X1_isAnyShorted {g : Gx} {fr : Bool} {h : MH} {x0} {out : Int32} (hf : f_X1_isAnyShorted h x0 = some out) : MM g yX1_isAnyShorted cX1_isAnyShorted 2 (some .boolean) 0 0 0 0 fr fr [.ref x0] h (some (.int out)) h := by
  unfold f_X1_isAnyShorted at hf
  refine MM_of (L := [some (.ref x0), none]) (by decide) (Nat.le_of_ble_eq_true rfl) rfl (fun K hK O Z hn => ?_)
  refine E_iconst (pc := 0) O (0 : Int32) dX1_isAnyShorted_0 (by decide) ?_
  refine E_istore_n (pc := 1) O 1 [some (.ref x0), some (.int (0 : Int32))] dX1_isAnyShorted_1 rfl (by decide) rfl rfl ?_
  exact t_f_X1_isAnyShorted_2 O Z FU x0 (0 : Int32) hf
set_option maxHeartbeats 4000000 in
set_option maxRecDepth 100000 in
theorem t_b_X1_isAllOff_27 {K : Cx} {fr : Bool} {out : Int32} {h : MH} (O : Ok K yX1_isAllOff.cls cX1_isAllOff 2 (rmm 1 21 0 0)) (Z : Out K (some .boolean) fr (some (.int out)) h)  (hf : b_X1_isAllOff_27 h  = some out) : EE K (fr, 0, 0) 27 [none, none] [] h := by
  unfold b_X1_isAllOff_27 at hf
  refine E_iconst (pc := 27) O (0 : Int32) dX1_isAllOff_27 (by decide) ?_
  exact E_zretP (pc := 28) O Z hf ⟨(Nat.le_of_ble_eq_true rfl), (Nat.le_of_ble_eq_true rfl)⟩ dX1_isAllOff_28
set_option maxHeartbeats 4000000 in
set_option maxRecDepth 100000 in
theorem t_b_X1_isAllOff_2 {K : Cx} {fr : Bool} {out : Int32} {h : MH} (O : Ok K yX1_isAllOff.cls cX1_isAllOff 2 (rmm 1 21 0 0)) (Z : Out K (some .boolean) fr (some (.int out)) h) (rec2 : Nat → Int32 → Option Int32) (hr2 : ∀ (x0 : Nat) (x1 : Int32), rec2 x0 x1 = some out → EE K (fr, 0, 0) 2 [some (.ref x0), some (.int x1)] [] h) (x0 : Nat) (x1 : Int32) (hf : b_X1_isAllOff_2 h rec2 x0 x1 = some out) : EE K (fr, 0, 0) 2 [some (.ref x0), some (.int x1)] [] h := by
  unfold b_X1_isAllOff_2 at hf
  refine E_iload_n (pc := 2) O 1 dX1_isAllOff_2 rfl rfl ?_
  refine E_aload_n (pc := 3) O 0 dX1_isAllOff_3 rfl rfl ?_
  refine E_getI (pc := 4) O FL_RailSequence_Plant_62 dX1_isAllOff_4 hf (fun v1 hf => ?_)
  refine E_icmp_ge (pc := 7) O 35 dX1_isAllOff_7 (by decide) hf (fun hf => ?_) (fun hf => ?_)
  · refine E_iconst (pc := 35) O (1 : Int32) dX1_isAllOff_35 (by decide) ?_
    exact E_zretP (pc := 36) O Z hf ⟨(Nat.le_of_ble_eq_true rfl), (Nat.le_of_ble_eq_true rfl)⟩ dX1_isAllOff_36
  · refine E_aload_n (pc := 10) O 0 dX1_isAllOff_10 rfl rfl ?_
    refine E_getR (pc := 11) O FL_RailSequence_Plant_22 dX1_isAllOff_11 hf (fun v2 hf => ?_)
    refine E_iload_n (pc := 14) O 1 dX1_isAllOff_14 rfl rfl ?_
    refine E_iaload (pc := 15) O dX1_isAllOff_15 hf (fun v3 hf => ?_)
    refine E_if_ne (pc := 16) O 27 dX1_isAllOff_16 (by decide) hf (fun hf => ?_) (fun hf => ?_)
    · exact E_sub (L' := [none, none]) True.intro (t_b_X1_isAllOff_27 O Z  hf)
    · refine E_aload_n (pc := 19) O 0 dX1_isAllOff_19 rfl rfl ?_
      refine E_iload_n (pc := 20) O 1 dX1_isAllOff_20 rfl rfl ?_
      refine E_callV_iP (pc := 21) (S := []) O [.int x1] CV_RailSequence_Plant_105 rfl (fun r e => t_X1_isDischarged e) dX1_isAllOff_21 hf rfl ⟨(Nat.le_of_ble_eq_true rfl), (Nat.le_of_ble_eq_true rfl)⟩ ⟨(Nat.le_of_ble_eq_true rfl), (Nat.le_of_ble_eq_true rfl)⟩ (Nat.le_of_ble_eq_true rfl) (fun v4 hf => ?_)
      refine E_if_ne (pc := 24) O 29 dX1_isAllOff_24 (by decide) hf (fun hf => ?_) (fun hf => ?_)
      · refine E_iinc (pc := 29) O (1 : Int32) [some (.ref x0), some (.int (x1 + (1 : Int32)))] dX1_isAllOff_29 rfl (by decide) rfl (by decide) rfl ?_
        refine E_goto (pc := 32) O 2 dX1_isAllOff_32 (by decide) ?_
        exact hr2 x0 (x1 + (1 : Int32)) hf
      · exact E_sub (L' := [none, none]) True.intro (t_b_X1_isAllOff_27 O Z  hf)
theorem t_f_X1_isAllOff_2 {K : Cx} {fr : Bool} {out : Int32} {h : MH} (O : Ok K yX1_isAllOff.cls cX1_isAllOff 2 (rmm 1 21 0 0)) (Z : Out K (some .boolean) fr (some (.int out)) h) : ∀ (n : Nat) (x0 : Nat) (x1 : Int32), f_X1_isAllOff_2 h n x0 x1 = some out → EE K (fr, 0, 0) 2 [some (.ref x0), some (.int x1)] [] h := by
  intro n
  induction n with
  | zero => intro x0 x1 hf; cases hf
  | succ n ih => intro x0 x1 hf; exact t_b_X1_isAllOff_2 O Z _ ih x0 x1 hf
set_option maxHeartbeats 4000000 in
set_option maxRecDepth 100000 in
theorem t_X1_isAllOff {g : Gx} {fr : Bool} {h : MH} {x0} {out : Int32} (hf : f_X1_isAllOff h x0 = some out) : MM g yX1_isAllOff cX1_isAllOff 2 (some .boolean) 1 21 0 0 fr fr [.ref x0] h (some (.int out)) h := by
  unfold f_X1_isAllOff at hf
  refine MM_of (L := [some (.ref x0), none]) (by decide) (Nat.le_of_ble_eq_true rfl) rfl (fun K hK O Z hn => ?_)
  refine E_iconst (pc := 0) O (0 : Int32) dX1_isAllOff_0 (by decide) ?_
  refine E_istore_n (pc := 1) O 1 [some (.ref x0), some (.int (0 : Int32))] dX1_isAllOff_1 rfl (by decide) rfl rfl ?_
  exact t_f_X1_isAllOff_2 O Z FU x0 (0 : Int32) hf
set_option maxHeartbeats 4000000 in
set_option maxRecDepth 100000 in
theorem t_X1_rememberBefore {g : Gx} {fr : Bool} {h : MH} {x0} {out : MH} (hf : f_X1_rememberBefore h x0 = some out) : MM g yX1_rememberBefore cX1_rememberBefore 1 none 1 60 0 0 fr fr [.ref x0] h none out := by
  unfold f_X1_rememberBefore at hf
  refine MM_of (L := [some (.ref x0)]) (by decide) (Nat.le_of_ble_eq_true rfl) rfl (fun K hK O Z hn => ?_)
  refine E_aload_n (pc := 0) O 0 dX1_rememberBefore_0 rfl rfl ?_
  refine E_getR (pc := 1) O FL_RailSequence_Plant_22 dX1_rememberBefore_1 hf (fun v1 hf => ?_)
  refine E_iconst (pc := 4) O (0 : Int32) dX1_rememberBefore_4 (by decide) ?_
  refine E_aload_n (pc := 5) O 0 dX1_rememberBefore_5 rfl rfl ?_
  refine E_getR (pc := 6) O FL_RailSequence_Plant_53 dX1_rememberBefore_6 hf (fun v2 hf => ?_)
  refine E_iconst (pc := 9) O (0 : Int32) dX1_rememberBefore_9 (by decide) ?_
  refine E_bipush (pc := 10) O (8 : Int32) dX1_rememberBefore_10 (by decide) ?_
  refine E_acopy (pc := 12) O (aw1 234 (by decide +kernel) rfl) (aw1 236 (by decide +kernel) rfl) (aw1 235 (by decide +kernel) rfl) (aw1 10 (by decide +kernel) rfl) (Nat.le_of_ble_eq_true rfl) (Nat.le_of_ble_eq_true rfl) dX1_rememberBefore_12 hf (fun h3 hf => ?_)
  refine E_aload_n (pc := 15) O 0 dX1_rememberBefore_15 rfl rfl ?_
  refine E_getR (pc := 16) O FL_RailSequence_Plant_25 dX1_rememberBefore_16 hf (fun v4 hf => ?_)
  refine E_iconst (pc := 19) O (0 : Int32) dX1_rememberBefore_19 (by decide) ?_
  refine E_aload_n (pc := 20) O 0 dX1_rememberBefore_20 rfl rfl ?_
  refine E_getR (pc := 21) O FL_RailSequence_Plant_56 dX1_rememberBefore_21 hf (fun v5 hf => ?_)
  refine E_iconst (pc := 24) O (0 : Int32) dX1_rememberBefore_24 (by decide) ?_
  refine E_bipush (pc := 25) O (8 : Int32) dX1_rememberBefore_25 (by decide) ?_
  refine E_acopy (pc := 27) O (aw1 234 (by decide +kernel) rfl) (aw1 236 (by decide +kernel) rfl) (aw1 235 (by decide +kernel) rfl) (aw1 10 (by decide +kernel) rfl) (Nat.le_of_ble_eq_true rfl) (Nat.le_of_ble_eq_true rfl) dX1_rememberBefore_27 hf (fun h6 hf => ?_)
  refine E_aload_n (pc := 30) O 0 dX1_rememberBefore_30 rfl rfl ?_
  refine E_getR (pc := 31) O FL_RailSequence_Plant_34 dX1_rememberBefore_31 hf (fun v7 hf => ?_)
  refine E_iconst (pc := 34) O (0 : Int32) dX1_rememberBefore_34 (by decide) ?_
  refine E_aload_n (pc := 35) O 0 dX1_rememberBefore_35 rfl rfl ?_
  refine E_getR (pc := 36) O FL_RailSequence_Plant_59 dX1_rememberBefore_36 hf (fun v8 hf => ?_)
  refine E_iconst (pc := 39) O (0 : Int32) dX1_rememberBefore_39 (by decide) ?_
  refine E_bipush (pc := 40) O (8 : Int32) dX1_rememberBefore_40 (by decide) ?_
  refine E_acopy (pc := 42) O (aw1 234 (by decide +kernel) rfl) (aw1 236 (by decide +kernel) rfl) (aw1 235 (by decide +kernel) rfl) (aw1 10 (by decide +kernel) rfl) (Nat.le_of_ble_eq_true rfl) (Nat.le_of_ble_eq_true rfl) dX1_rememberBefore_42 hf (fun h9 hf => ?_)
  exact E_vret (pc := 45) O Z hf ⟨(Nat.le_of_ble_eq_true rfl), (Nat.le_of_ble_eq_true rfl)⟩ dX1_rememberBefore_45
set_option maxHeartbeats 4000000 in
set_option maxRecDepth 100000 in
theorem t_b_X1_moveVoltages_120 {K : Cx} {fr : Bool} {out : MH} (O : Ok K yX1_moveVoltages.cls cX1_moveVoltages 5 (rmm 1 60 0 0)) (Z : Out K none fr none out) (rec2 : MH → Nat → Int32 → Option MH) (hr2 : ∀ (h : MH) (x0 : Nat) (x1 : Int32), rec2 h x0 x1 = some out → EE K (fr, 0, 0) 2 [some (.ref x0), some (.int x1), none, none, none] [] h) (h : MH) (x0 : Nat) (x1 : Int32) (s0 : Nat) (s1 : Int32) (s2 : Int32) (hf : b_X1_moveVoltages_120 rec2 h x0 x1 s0 s1 s2 = some out) : EE K (fr, 0, 0) 120 [some (.ref x0), some (.int x1), none, none, none] [.int s2, .int s1, .ref s0] h := by
  unfold b_X1_moveVoltages_120 at hf
  refine E_iastore (pc := 120) O dX1_moveVoltages_120 hf (fun h1 hf => ?_)
  refine E_iinc (pc := 121) O (1 : Int32) [some (.ref x0), some (.int (x1 + (1 : Int32))), none, none, none] dX1_moveVoltages_121 rfl (by decide) rfl (by decide) rfl ?_
  refine E_goto (pc := 124) O 2 dX1_moveVoltages_124 (by decide) ?_
  exact hr2 h1 x0 (x1 + (1 : Int32)) hf
set_option maxHeartbeats 4000000 in
set_option maxRecDepth 100000 in
theorem t_b_X1_moveVoltages_71 {K : Cx} {fr : Bool} {out : MH} (O : Ok K yX1_moveVoltages.cls cX1_moveVoltages 5 (rmm 1 60 0 0)) (Z : Out K none fr none out) (rec2 : MH → Nat → Int32 → Option MH) (hr2 : ∀ (h : MH) (x0 : Nat) (x1 : Int32), rec2 h x0 x1 = some out → EE K (fr, 0, 0) 2 [some (.ref x0), some (.int x1), none, none, none] [] h) (h : MH) (x0 : Nat) (x1 : Int32) (x3 : Int32) (s0 : Nat) (s1 : Int32) (s2 : Int32) (hf : b_X1_moveVoltages_71 rec2 h x0 x1 x3 s0 s1 s2 = some out) : EE K (fr, 0, 0) 71 [some (.ref x0), some (.int x1), none, some (.int x3), none] [.int s2, .int s1, .ref s0] h := by
  unfold b_X1_moveVoltages_71 at hf
  refine E_callV_iP (pc := 71) (S := []) O [.int s1, .int s2] CV_RailSequence_Plant_95 rfl (fun r e => t_X1_propertyOf e) dX1_moveVoltages_71 hf rfl ⟨(Nat.le_of_ble_eq_true rfl), (Nat.le_of_ble_eq_true rfl)⟩ ⟨(Nat.le_of_ble_eq_true rfl), (Nat.le_of_ble_eq_true rfl)⟩ (Nat.le_of_ble_eq_true rfl) (fun v2 hf => ?_)
  refine E_istore (pc := 74) O [some (.ref x0), some (.int x1), none, some (.int x3), some (.int v2)] dX1_moveVoltages_74 (by decide) rfl rfl ?_
  refine E_aload_n (pc := 76) O 0 dX1_moveVoltages_76 rfl rfl ?_
  refine E_getR (pc := 77) O FL_RailSequence_Plant_25 dX1_moveVoltages_77 hf (fun v3 hf => ?_)
  refine E_iload_n (pc := 80) O 1 dX1_moveVoltages_80 rfl rfl ?_
  refine E_aload_n (pc := 81) O 0 dX1_moveVoltages_81 rfl rfl ?_
  refine E_getR (pc := 82) O FL_RailSequence_Plant_25 dX1_moveVoltages_82 hf (fun v4 hf => ?_)
  refine E_iload_n (pc := 85) O 1 dX1_moveVoltages_85 rfl rfl ?_
  refine E_iaload (pc := 86) O dX1_moveVoltages_86 hf (fun v5 hf => ?_)
  refine E_iload_n (pc := 87) O 3 dX1_moveVoltages_87 rfl rfl ?_
  refine E_icmp_ge (pc := 88) O 107 dX1_moveVoltages_88 (by decide) hf (fun hf => ?_) (fun hf => ?_)
  · refine E_iload_n (pc := 107) O 3 dX1_moveVoltages_107 rfl rfl ?_
    refine E_aload_n (pc := 108) O 0 dX1_moveVoltages_108 rfl rfl ?_
    refine E_getR (pc := 109) O FL_RailSequence_Plant_25 dX1_moveVoltages_109 hf (fun v6 hf => ?_)
    refine E_iload_n (pc := 112) O 1 dX1_moveVoltages_112 rfl rfl ?_
    refine E_iaload (pc := 113) O dX1_moveVoltages_113 hf (fun v7 hf => ?_)
    refine E_iload (pc := 114) O dX1_moveVoltages_114 rfl ?_
    refine E_isub (pc := 116) O dX1_moveVoltages_116 ?_
    refine E_max (pc := 117) O (aw2 21 (by decide +kernel) rfl) (aw2 22 (by decide +kernel) rfl) (aw1 11 (by decide +kernel) rfl) (aw2 23 (by decide +kernel) rfl) (Nat.le_of_ble_eq_true rfl) (Nat.le_of_ble_eq_true rfl) ⟨(Nat.le_of_ble_eq_true rfl), (Nat.le_of_ble_eq_true rfl)⟩ dX1_moveVoltages_117 ?_
    exact E_sub (L' := [some (.ref x0), some (.int x1), none, none, none]) (And.intro rfl (And.intro rfl True.intro)) (t_b_X1_moveVoltages_120 O Z _ hr2 h x0 x1 v3 x1 (mmax x3 (v7 - v2)) hf)
  · refine E_iload_n (pc := 91) O 3 dX1_moveVoltages_91 rfl rfl ?_
    refine E_aload_n (pc := 92) O 0 dX1_moveVoltages_92 rfl rfl ?_
    refine E_getR (pc := 93) O FL_RailSequence_Plant_25 dX1_moveVoltages_93 hf (fun v8 hf => ?_)
    refine E_iload_n (pc := 96) O 1 dX1_moveVoltages_96 rfl rfl ?_
    refine E_iaload (pc := 97) O dX1_moveVoltages_97 hf (fun v9 hf => ?_)
    refine E_iload (pc := 98) O dX1_moveVoltages_98 rfl ?_
    refine E_iadd (pc := 100) O dX1_moveVoltages_100 ?_
    refine E_min (pc := 101) O (aw2 18 (by decide +kernel) rfl) (aw2 19 (by decide +kernel) rfl) (aw1 11 (by decide +kernel) rfl) (aw2 20 (by decide +kernel) rfl) (Nat.le_of_ble_eq_true rfl) (Nat.le_of_ble_eq_true rfl) ⟨(Nat.le_of_ble_eq_true rfl), (Nat.le_of_ble_eq_true rfl)⟩ dX1_moveVoltages_101 ?_
    refine E_goto (pc := 104) O 120 dX1_moveVoltages_104 (by decide) ?_
    exact E_sub (L' := [some (.ref x0), some (.int x1), none, none, none]) (And.intro rfl (And.intro rfl True.intro)) (t_b_X1_moveVoltages_120 O Z _ hr2 h x0 x1 v3 x1 (mmin x3 (v9 + v2)) hf)
set_option maxHeartbeats 4000000 in
set_option maxRecDepth 100000 in
theorem t_b_X1_moveVoltages_59 {K : Cx} {fr : Bool} {out : MH} (O : Ok K yX1_moveVoltages.cls cX1_moveVoltages 5 (rmm 1 60 0 0)) (Z : Out K none fr none out) (rec2 : MH → Nat → Int32 → Option MH) (hr2 : ∀ (h : MH) (x0 : Nat) (x1 : Int32), rec2 h x0 x1 = some out → EE K (fr, 0, 0) 2 [some (.ref x0), some (.int x1), none, none, none] [] h) (h : MH) (x0 : Nat) (x1 : Int32) (x2 : Int32) (s0 : Int32) (hf : b_X1_moveVoltages_59 rec2 h x0 x1 x2 s0 = some out) : EE K (fr, 0, 0) 59 [some (.ref x0), some (.int x1), some (.int x2), none, none] [.int s0] h := by
  unfold b_X1_moveVoltages_59 at hf
  refine E_istore_n (pc := 59) O 3 [some (.ref x0), some (.int x1), some (.int x2), some (.int s0), none] dX1_moveVoltages_59 rfl (by decide) rfl rfl ?_
  refine E_aload_n (pc := 60) O 0 dX1_moveVoltages_60 rfl rfl ?_
  refine E_iload_n (pc := 61) O 1 dX1_moveVoltages_61 rfl rfl ?_
  refine E_iload_n (pc := 62) O 2 dX1_moveVoltages_62 rfl rfl ?_
  refine E_if_eq (pc := 63) O 70 dX1_moveVoltages_63 (by decide) hf (fun hf => ?_) (fun hf => ?_)
  · refine E_iconst (pc := 70) O (2 : Int32) dX1_moveVoltages_70 (by decide) ?_
    exact E_sub (L' := [some (.ref x0), some (.int x1), none, some (.int s0), none]) (And.intro rfl (And.intro rfl (And.intro rfl True.intro))) (t_b_X1_moveVoltages_71 O Z _ hr2 h x0 x1 s0 x0 x1 (2 : Int32) hf)
  · refine E_iconst (pc := 66) O (1 : Int32) dX1_moveVoltages_66 (by decide) ?_
    refine E_goto (pc := 67) O 71 dX1_moveVoltages_67 (by decide) ?_
    exact E_sub (L' := [some (.ref x0), some (.int x1), none, some (.int s0), none]) (And.intro rfl (And.intro rfl (And.intro rfl True.intro))) (t_b_X1_moveVoltages_71 O Z _ hr2 h x0 x1 s0 x0 x1 (1 : Int32) hf)
set_option maxHeartbeats 4000000 in
set_option maxRecDepth 100000 in
theorem t_b_X1_moveVoltages_44 {K : Cx} {fr : Bool} {out : MH} (O : Ok K yX1_moveVoltages.cls cX1_moveVoltages 5 (rmm 1 60 0 0)) (Z : Out K none fr none out) (rec2 : MH → Nat → Int32 → Option MH) (hr2 : ∀ (h : MH) (x0 : Nat) (x1 : Int32), rec2 h x0 x1 = some out → EE K (fr, 0, 0) 2 [some (.ref x0), some (.int x1), none, none, none] [] h) (h : MH) (x0 : Nat) (x1 : Int32) (s0 : Int32) (hf : b_X1_moveVoltages_44 rec2 h x0 x1 s0 = some out) : EE K (fr, 0, 0) 44 [some (.ref x0), some (.int x1), none, none, none] [.int s0] h := by
  unfold b_X1_moveVoltages_44 at hf
  refine E_istore_n (pc := 44) O 2 [some (.ref x0), some (.int x1), some (.int s0), none, none] dX1_moveVoltages_44 rfl (by decide) rfl rfl ?_
  refine E_iload_n (pc := 45) O 2 dX1_moveVoltages_45 rfl rfl ?_
  refine E_if_eq (pc := 46) O 58 dX1_moveVoltages_46 (by decide) hf (fun hf => ?_) (fun hf => ?_)
  · refine E_iconst (pc := 58) O (0 : Int32) dX1_moveVoltages_58 (by decide) ?_
    exact t_b_X1_moveVoltages_59 O Z _ hr2 h x0 x1 s0 (0 : Int32) hf
  · refine E_aload_n (pc := 49) O 0 dX1_moveVoltages_49 rfl rfl ?_
    refine E_iload_n (pc := 50) O 1 dX1_moveVoltages_50 rfl rfl ?_
    refine E_iconst (pc := 51) O (0 : Int32) dX1_moveVoltages_51 (by decide) ?_
    refine E_callV_iP (pc := 52) (S := []) O [.int x1, .int (0 : Int32)] CV_RailSequence_Plant_95 rfl (fun r e => t_X1_propertyOf e) dX1_moveVoltages_52 hf rfl ⟨(Nat.le_of_ble_eq_true rfl), (Nat.le_of_ble_eq_true rfl)⟩ ⟨(Nat.le_of_ble_eq_true rfl), (Nat.le_of_ble_eq_true rfl)⟩ (Nat.le_of_ble_eq_true rfl) (fun v10 hf => ?_)
    refine E_goto (pc := 55) O 59 dX1_moveVoltages_55 (by decide) ?_
    exact t_b_X1_moveVoltages_59 O Z _ hr2 h x0 x1 s0 v10 hf
set_option maxHeartbeats 4000000 in
set_option maxRecDepth 100000 in
theorem t_b_X1_moveVoltages_43 {K : Cx} {fr : Bool} {out : MH} (O : Ok K yX1_moveVoltages.cls cX1_moveVoltages 5 (rmm 1 60 0 0)) (Z : Out K none fr none out) (rec2 : MH → Nat → Int32 → Option MH) (hr2 : ∀ (h : MH) (x0 : Nat) (x1 : Int32), rec2 h x0 x1 = some out → EE K (fr, 0, 0) 2 [some (.ref x0), some (.int x1), none, none, none] [] h) (h : MH) (x0 : Nat) (x1 : Int32) (hf : b_X1_moveVoltages_43 rec2 h x0 x1 = some out) : EE K (fr, 0, 0) 43 [some (.ref x0), some (.int x1), none, none, none] [] h := by
  unfold b_X1_moveVoltages_43 at hf
  refine E_iconst (pc := 43) O (0 : Int32) dX1_moveVoltages_43 (by decide) ?_
  exact t_b_X1_moveVoltages_44 O Z _ hr2 h x0 x1 (0 : Int32) hf
set_option maxHeartbeats 4000000 in
set_option maxRecDepth 100000 in
theorem t_b_X1_moveVoltages_30 {K : Cx} {fr : Bool} {out : MH} (O : Ok K yX1_moveVoltages.cls cX1_moveVoltages 5 (rmm 1 60 0 0)) (Z : Out K none fr none out) (rec2 : MH → Nat → Int32 → Option MH) (hr2 : ∀ (h : MH) (x0 : Nat) (x1 : Int32), rec2 h x0 x1 = some out → EE K (fr, 0, 0) 2 [some (.ref x0), some (.int x1), none, none, none] [] h) (h : MH) (x0 : Nat) (x1 : Int32) (hf : b_X1_moveVoltages_30 rec2 h x0 x1 = some out) : EE K (fr, 0, 0) 30 [some (.ref x0), some (.int x1), none, none, none] [] h := by
  unfold b_X1_moveVoltages_30 at hf
  refine E_aload_n (pc := 30) O 0 dX1_moveVoltages_30 rfl rfl ?_
  refine E_getR (pc := 31) O FL_RailSequence_Plant_31 dX1_moveVoltages_31 hf (fun v11 hf => ?_)
  refine E_iload_n (pc := 34) O 1 dX1_moveVoltages_34 rfl rfl ?_
  refine E_iaload (pc := 35) O dX1_moveVoltages_35 hf (fun v12 hf => ?_)
  refine E_if_ne (pc := 36) O 43 dX1_moveVoltages_36 (by decide) hf (fun hf => ?_) (fun hf => ?_)
  · exact t_b_X1_moveVoltages_43 O Z _ hr2 h x0 x1 hf
  · refine E_iconst (pc := 39) O (1 : Int32) dX1_moveVoltages_39 (by decide) ?_
    refine E_goto (pc := 40) O 44 dX1_moveVoltages_40 (by decide) ?_
    exact t_b_X1_moveVoltages_44 O Z _ hr2 h x0 x1 (1 : Int32) hf
set_option maxHeartbeats 4000000 in
set_option maxRecDepth 100000 in
theorem t_b_X1_moveVoltages_2 {K : Cx} {fr : Bool} {out : MH} (O : Ok K yX1_moveVoltages.cls cX1_moveVoltages 5 (rmm 1 60 0 0)) (Z : Out K none fr none out) (rec2 : MH → Nat → Int32 → Option MH) (hr2 : ∀ (h : MH) (x0 : Nat) (x1 : Int32), rec2 h x0 x1 = some out → EE K (fr, 0, 0) 2 [some (.ref x0), some (.int x1), none, none, none] [] h) (h : MH) (x0 : Nat) (x1 : Int32) (hf : b_X1_moveVoltages_2 rec2 h x0 x1 = some out) : EE K (fr, 0, 0) 2 [some (.ref x0), some (.int x1), none, none, none] [] h := by
  unfold b_X1_moveVoltages_2 at hf
  refine E_iload_n (pc := 2) O 1 dX1_moveVoltages_2 rfl rfl ?_
  refine E_aload_n (pc := 3) O 0 dX1_moveVoltages_3 rfl rfl ?_
  refine E_getI (pc := 4) O FL_RailSequence_Plant_62 dX1_moveVoltages_4 hf (fun v13 hf => ?_)
  refine E_icmp_ge (pc := 7) O 127 dX1_moveVoltages_7 (by decide) hf (fun hf => ?_) (fun hf => ?_)
  · exact E_vret (pc := 127) O Z hf ⟨(Nat.le_of_ble_eq_true rfl), (Nat.le_of_ble_eq_true rfl)⟩ dX1_moveVoltages_127
  · refine E_aload_n (pc := 10) O 0 dX1_moveVoltages_10 rfl rfl ?_
    refine E_getR (pc := 11) O FL_RailSequence_Plant_22 dX1_moveVoltages_11 hf (fun v14 hf => ?_)
    refine E_iload_n (pc := 14) O 1 dX1_moveVoltages_14 rfl rfl ?_
    refine E_iaload (pc := 15) O dX1_moveVoltages_15 hf (fun v15 hf => ?_)
    refine E_iconst (pc := 16) O (2 : Int32) dX1_moveVoltages_16 (by decide) ?_
    refine E_icmp_eq (pc := 17) O 30 dX1_moveVoltages_17 (by decide) hf (fun hf => ?_) (fun hf => ?_)
    · exact t_b_X1_moveVoltages_30 O Z _ hr2 h x0 x1 hf
    · refine E_aload_n (pc := 20) O 0 dX1_moveVoltages_20 rfl rfl ?_
      refine E_getR (pc := 21) O FL_RailSequence_Plant_22 dX1_moveVoltages_21 hf (fun v16 hf => ?_)
      refine E_iload_n (pc := 24) O 1 dX1_moveVoltages_24 rfl rfl ?_
      refine E_iaload (pc := 25) O dX1_moveVoltages_25 hf (fun v17 hf => ?_)
      refine E_iconst (pc := 26) O (3 : Int32) dX1_moveVoltages_26 (by decide) ?_
      refine E_icmp_ne (pc := 27) O 43 dX1_moveVoltages_27 (by decide) hf (fun hf => ?_) (fun hf => ?_)
      · exact t_b_X1_moveVoltages_43 O Z _ hr2 h x0 x1 hf
      · exact t_b_X1_moveVoltages_30 O Z _ hr2 h x0 x1 hf
theorem t_f_X1_moveVoltages_2 {K : Cx} {fr : Bool} {out : MH} (O : Ok K yX1_moveVoltages.cls cX1_moveVoltages 5 (rmm 1 60 0 0)) (Z : Out K none fr none out) : ∀ (n : Nat) (h : MH) (x0 : Nat) (x1 : Int32), f_X1_moveVoltages_2 n h x0 x1 = some out → EE K (fr, 0, 0) 2 [some (.ref x0), some (.int x1), none, none, none] [] h := by
  intro n
  induction n with
  | zero => intro h x0 x1 hf; cases hf
  | succ n ih => intro h x0 x1 hf; exact t_b_X1_moveVoltages_2 O Z _ ih h x0 x1 hf
set_option maxHeartbeats 4000000 in
set_option maxRecDepth 100000 in
theorem t_X1_moveVoltages {g : Gx} {fr : Bool} {h : MH} {x0} {out : MH} (hf : f_X1_moveVoltages h x0 = some out) : MM g yX1_moveVoltages cX1_moveVoltages 5 none 1 60 0 0 fr fr [.ref x0] h none out := by
  unfold f_X1_moveVoltages at hf
  refine MM_of (L := [some (.ref x0), none, none, none, none]) (by decide) (Nat.le_of_ble_eq_true rfl) rfl (fun K hK O Z hn => ?_)
  refine E_iconst (pc := 0) O (0 : Int32) dX1_moveVoltages_0 (by decide) ?_
  refine E_istore_n (pc := 1) O 1 [some (.ref x0), some (.int (0 : Int32)), none, none, none] dX1_moveVoltages_1 rfl (by decide) rfl rfl ?_
  exact t_f_X1_moveVoltages_2 O Z FU h x0 (0 : Int32) hf
set_option maxHeartbeats 4000000 in
set_option maxRecDepth 100000 in
theorem t_X1_afterOff {g : Gx} {fr : Bool} {h : MH} {x0 x1} {out : (Int32 × MH)} (hf : f_X1_afterOff h x0 x1 = some out) : MM g yX1_afterOff cX1_afterOff 2 (some .int) 1 21 0 0 fr fr [.ref x0, .int x1] h (some (.int out.1)) out.2 := by
  unfold f_X1_afterOff at hf
  refine MM_of (L := [some (.ref x0), some (.int x1)]) (by decide) (Nat.le_of_ble_eq_true rfl) rfl (fun K hK O Z hn => ?_)
  refine E_aload_n (pc := 0) O 0 dX1_afterOff_0 rfl rfl ?_
  refine E_iload_n (pc := 1) O 1 dX1_afterOff_1 rfl rfl ?_
  refine E_callV_iP (pc := 2) (S := []) O [.int x1] CV_RailSequence_Plant_85 rfl (fun r e => t_X1_isWanted e) dX1_afterOff_2 hf rfl ⟨(Nat.le_of_ble_eq_true rfl), (Nat.le_of_ble_eq_true rfl)⟩ ⟨(Nat.le_of_ble_eq_true rfl), (Nat.le_of_ble_eq_true rfl)⟩ (Nat.le_of_ble_eq_true rfl) (fun v1 hf => ?_)
  refine E_if_ne (pc := 5) O 10 dX1_afterOff_5 (by decide) hf (fun hf => ?_) (fun hf => ?_)
  · refine E_aload_n (pc := 10) O 0 dX1_afterOff_10 rfl rfl ?_
    refine E_getR (pc := 11) O FL_RailSequence_Plant_34 dX1_afterOff_11 hf (fun v2 hf => ?_)
    refine E_iload_n (pc := 14) O 1 dX1_afterOff_14 rfl rfl ?_
    refine E_iconst (pc := 15) O (0 : Int32) dX1_afterOff_15 (by decide) ?_
    refine E_iastore (pc := 16) O dX1_afterOff_16 hf (fun h3 hf => ?_)
    refine E_aload_n (pc := 17) O 0 dX1_afterOff_17 rfl rfl ?_
    refine E_getR (pc := 18) O FL_RailSequence_Plant_37 dX1_afterOff_18 hf (fun v4 hf => ?_)
    refine E_iload_n (pc := 21) O 1 dX1_afterOff_21 rfl rfl ?_
    refine E_iconst (pc := 22) O (0 : Int32) dX1_afterOff_22 (by decide) ?_
    refine E_iastore (pc := 23) O dX1_afterOff_23 hf (fun h5 hf => ?_)
    refine E_iconst (pc := 24) O (1 : Int32) dX1_afterOff_24 (by decide) ?_
    exact E_iret (pc := 25) O Z hf ⟨(Nat.le_of_ble_eq_true rfl), (Nat.le_of_ble_eq_true rfl)⟩ dX1_afterOff_25
  · refine E_iconst (pc := 8) O (0 : Int32) dX1_afterOff_8 (by decide) ?_
    exact E_iret (pc := 9) O Z hf ⟨(Nat.le_of_ble_eq_true rfl), (Nat.le_of_ble_eq_true rfl)⟩ dX1_afterOff_9
set_option maxHeartbeats 4000000 in
set_option maxRecDepth 100000 in
theorem t_b_X1_lowestBadNeed_48 {K : Cx} {fr : Bool} {out : Int32} {h : MH} (O : Ok K yX1_lowestBadNeed.cls cX1_lowestBadNeed 4 (rmm 1 22 0 0)) (Z : Out K (some .int) fr (some (.int out)) h) (x2 : Int32) (hf : b_X1_lowestBadNeed_48 h x2 = some out) : EE K (fr, 0, 0) 48 [none, none, some (.int x2), none] [] h := by
  unfold b_X1_lowestBadNeed_48 at hf
  refine E_iload_n (pc := 48) O 2 dX1_lowestBadNeed_48 rfl rfl ?_
  exact E_iretP (pc := 49) O Z hf ⟨(Nat.le_of_ble_eq_true rfl), (Nat.le_of_ble_eq_true rfl)⟩ dX1_lowestBadNeed_49
set_option maxHeartbeats 4000000 in
set_option maxRecDepth 100000 in
theorem t_b_X1_lowestBadNeed_50 {K : Cx} {fr : Bool} {out : Int32} {h : MH} (O : Ok K yX1_lowestBadNeed.cls cX1_lowestBadNeed 4 (rmm 1 22 0 0)) (Z : Out K (some .int) fr (some (.int out)) h) (rec2 : Nat → Int32 → Int32 → Option Int32) (hr2 : ∀ (x0 : Nat) (x1 : Int32) (x2 : Int32), rec2 x0 x1 x2 = some out → EE K (fr, 0, 0) 2 [some (.ref x0), some (.int x1), some (.int x2), none] [] h) (x0 : Nat) (x1 : Int32) (x2 : Int32) (hf : b_X1_lowestBadNeed_50 h rec2 x0 x1 x2 = some out) : EE K (fr, 0, 0) 50 [some (.ref x0), some (.int x1), some (.int x2), none] [] h := by
  unfold b_X1_lowestBadNeed_50 at hf
  refine E_iinc (pc := 50) O (1 : Int32) [some (.ref x0), some (.int x1), some (.int (x2 + (1 : Int32))), none] dX1_lowestBadNeed_50 rfl (by decide) rfl (by decide) rfl ?_
  refine E_goto (pc := 53) O 2 dX1_lowestBadNeed_53 (by decide) ?_
  exact hr2 x0 x1 (x2 + (1 : Int32)) hf
set_option maxHeartbeats 4000000 in
set_option maxRecDepth 100000 in
theorem t_b_X1_lowestBadNeed_25 {K : Cx} {fr : Bool} {out : Int32} {h : MH} (O : Ok K yX1_lowestBadNeed.cls cX1_lowestBadNeed 4 (rmm 1 22 0 0)) (Z : Out K (some .int) fr (some (.int out)) h) (rec2 : Nat → Int32 → Int32 → Option Int32) (hr2 : ∀ (x0 : Nat) (x1 : Int32) (x2 : Int32), rec2 x0 x1 x2 = some out → EE K (fr, 0, 0) 2 [some (.ref x0), some (.int x1), some (.int x2), none] [] h) (x0 : Nat) (x1 : Int32) (x2 : Int32) (s0 : Int32) (hf : b_X1_lowestBadNeed_25 h rec2 x0 x1 x2 s0 = some out) : EE K (fr, 0, 0) 25 [some (.ref x0), some (.int x1), some (.int x2), none] [.int s0] h := by
  unfold b_X1_lowestBadNeed_25 at hf
  refine E_istore_n (pc := 25) O 3 [some (.ref x0), some (.int x1), some (.int x2), some (.int s0)] dX1_lowestBadNeed_25 rfl (by decide) rfl rfl ?_
  refine E_iload_n (pc := 26) O 3 dX1_lowestBadNeed_26 rfl rfl ?_
  refine E_if_eq (pc := 27) O 50 dX1_lowestBadNeed_27 (by decide) hf (fun hf => ?_) (fun hf => ?_)
  · exact E_sub (L' := [some (.ref x0), some (.int x1), some (.int x2), none]) (And.intro rfl (And.intro rfl (And.intro rfl True.intro))) (t_b_X1_lowestBadNeed_50 O Z _ hr2 x0 x1 x2 hf)
  · refine E_aload_n (pc := 30) O 0 dX1_lowestBadNeed_30 rfl rfl ?_
    refine E_getR (pc := 31) O FL_RailSequence_Plant_53 dX1_lowestBadNeed_31 hf (fun v1 hf => ?_)
    refine E_iload_n (pc := 34) O 2 dX1_lowestBadNeed_34 rfl rfl ?_
    refine E_iaload (pc := 35) O dX1_lowestBadNeed_35 hf (fun v2 hf => ?_)
    refine E_iconst (pc := 36) O (3 : Int32) dX1_lowestBadNeed_36 (by decide) ?_
    refine E_icmp_ne (pc := 37) O 48 dX1_lowestBadNeed_37 (by decide) hf (fun hf => ?_) (fun hf => ?_)
    · exact E_sub (L' := [none, none, some (.int x2), none]) (And.intro rfl True.intro) (t_b_X1_lowestBadNeed_48 O Z x2 hf)
    · refine E_aload_n (pc := 40) O 0 dX1_lowestBadNeed_40 rfl rfl ?_
      refine E_iload_n (pc := 41) O 2 dX1_lowestBadNeed_41 rfl rfl ?_
      refine E_callV_iP (pc := 42) (S := []) O [.int x2] CV_RailSequence_Plant_89 rfl (fun r e => t_X1_hasFlag e) dX1_lowestBadNeed_42 hf rfl ⟨(Nat.le_of_ble_eq_true rfl), (Nat.le_of_ble_eq_true rfl)⟩ ⟨(Nat.le_of_ble_eq_true rfl), (Nat.le_of_ble_eq_true rfl)⟩ (Nat.le_of_ble_eq_true rfl) (fun v3 hf => ?_)
      refine E_if_ne (pc := 45) O 50 dX1_lowestBadNeed_45 (by decide) hf (fun hf => ?_) (fun hf => ?_)
      · exact E_sub (L' := [some (.ref x0), some (.int x1), some (.int x2), none]) (And.intro rfl (And.intro rfl (And.intro rfl True.intro))) (t_b_X1_lowestBadNeed_50 O Z _ hr2 x0 x1 x2 hf)
      · exact E_sub (L' := [none, none, some (.int x2), none]) (And.intro rfl True.intro) (t_b_X1_lowestBadNeed_48 O Z x2 hf)
set_option maxHeartbeats 4000000 in
set_option maxRecDepth 100000 in
theorem t_b_X1_lowestBadNeed_2 {K : Cx} {fr : Bool} {out : Int32} {h : MH} (O : Ok K yX1_lowestBadNeed.cls cX1_lowestBadNeed 4 (rmm 1 22 0 0)) (Z : Out K (some .int) fr (some (.int out)) h) (rec2 : Nat → Int32 → Int32 → Option Int32) (hr2 : ∀ (x0 : Nat) (x1 : Int32) (x2 : Int32), rec2 x0 x1 x2 = some out → EE K (fr, 0, 0) 2 [some (.ref x0), some (.int x1), some (.int x2), none] [] h) (x0 : Nat) (x1 : Int32) (x2 : Int32) (hf : b_X1_lowestBadNeed_2 h rec2 x0 x1 x2 = some out) : EE K (fr, 0, 0) 2 [some (.ref x0), some (.int x1), some (.int x2), none] [] h := by
  unfold b_X1_lowestBadNeed_2 at hf
  refine E_iload_n (pc := 2) O 2 dX1_lowestBadNeed_2 rfl rfl ?_
  refine E_iload_n (pc := 3) O 1 dX1_lowestBadNeed_3 rfl rfl ?_
  refine E_icmp_ge (pc := 4) O 56 dX1_lowestBadNeed_4 (by decide) hf (fun hf => ?_) (fun hf => ?_)
  · refine E_iconst (pc := 56) O (-1 : Int32) dX1_lowestBadNeed_56 (by decide) ?_
    exact E_iretP (pc := 57) O Z hf ⟨(Nat.le_of_ble_eq_true rfl), (Nat.le_of_ble_eq_true rfl)⟩ dX1_lowestBadNeed_57
  · refine E_aload_n (pc := 7) O 0 dX1_lowestBadNeed_7 rfl rfl ?_
    refine E_getR (pc := 8) O FL_RailSequence_Plant_19 dX1_lowestBadNeed_8 hf (fun v4 hf => ?_)
    refine E_iload_n (pc := 11) O 1 dX1_lowestBadNeed_11 rfl rfl ?_
    refine E_iaload (pc := 12) O dX1_lowestBadNeed_12 hf (fun v5 hf => ?_)
    refine E_iconst (pc := 13) O (1 : Int32) dX1_lowestBadNeed_13 (by decide) ?_
    refine E_iload_n (pc := 14) O 2 dX1_lowestBadNeed_14 rfl rfl ?_
    refine E_ishl (pc := 15) O dX1_lowestBadNeed_15 ?_
    refine E_iand (pc := 16) O dX1_lowestBadNeed_16 ?_
    refine E_if_eq (pc := 17) O 24 dX1_lowestBadNeed_17 (by decide) hf (fun hf => ?_) (fun hf => ?_)
    · refine E_iconst (pc := 24) O (0 : Int32) dX1_lowestBadNeed_24 (by decide) ?_
      exact t_b_X1_lowestBadNeed_25 O Z _ hr2 x0 x1 x2 (0 : Int32) hf
    · refine E_iconst (pc := 20) O (1 : Int32) dX1_lowestBadNeed_20 (by decide) ?_
      refine E_goto (pc := 21) O 25 dX1_lowestBadNeed_21 (by decide) ?_
      exact t_b_X1_lowestBadNeed_25 O Z _ hr2 x0 x1 x2 (1 : Int32) hf
theorem t_f_X1_lowestBadNeed_2 {K : Cx} {fr : Bool} {out : Int32} {h : MH} (O : Ok K yX1_lowestBadNeed.cls cX1_lowestBadNeed 4 (rmm 1 22 0 0)) (Z : Out K (some .int) fr (some (.int out)) h) : ∀ (n : Nat) (x0 : Nat) (x1 : Int32) (x2 : Int32), f_X1_lowestBadNeed_2 h n x0 x1 x2 = some out → EE K (fr, 0, 0) 2 [some (.ref x0), some (.int x1), some (.int x2), none] [] h := by
  intro n
  induction n with
  | zero => intro x0 x1 x2 hf; cases hf
  | succ n ih => intro x0 x1 x2 hf; exact t_b_X1_lowestBadNeed_2 O Z _ ih x0 x1 x2 hf
set_option maxHeartbeats 4000000 in
set_option maxRecDepth 100000 in
theorem t_X1_lowestBadNeed {g : Gx} {fr : Bool} {h : MH} {x0 x1} {out : Int32} (hf : f_X1_lowestBadNeed h x0 x1 = some out) : MM g yX1_lowestBadNeed cX1_lowestBadNeed 4 (some .int) 1 22 0 0 fr fr [.ref x0, .int x1] h (some (.int out)) h := by
  unfold f_X1_lowestBadNeed at hf
  refine MM_of (L := [some (.ref x0), some (.int x1), none, none]) (by decide) (Nat.le_of_ble_eq_true rfl) rfl (fun K hK O Z hn => ?_)
  refine E_iconst (pc := 0) O (0 : Int32) dX1_lowestBadNeed_0 (by decide) ?_
  refine E_istore_n (pc := 1) O 2 [some (.ref x0), some (.int x1), some (.int (0 : Int32)), none] dX1_lowestBadNeed_1 rfl (by decide) rfl rfl ?_
  exact t_f_X1_lowestBadNeed_2 O Z FU x0 x1 (0 : Int32) hf
set_option maxHeartbeats 4000000 in
set_option maxRecDepth 100000 in
theorem t_b_X1_afterWaiting_27 {K : Cx} {fr : Bool} {out : (Int32 × MH)} (O : Ok K yX1_afterWaiting.cls cX1_afterWaiting 2 (rmm 2 45 0 0)) (Z : Out K (some .int) fr (some (.int out.1)) out.2) (h : MH) (x0 : Nat) (x1 : Int32) (hf : b_X1_afterWaiting_27 h x0 x1 = some out) : EE K (fr, 0, 0) 27 [some (.ref x0), some (.int x1)] [] h := by
  unfold b_X1_afterWaiting_27 at hf
  refine E_aload_n (pc := 27) O 0 dX1_afterWaiting_27 rfl rfl ?_
  refine E_getR (pc := 28) O FL_RailSequence_Plant_34 dX1_afterWaiting_28 hf (fun v1 hf => ?_)
  refine E_iload_n (pc := 31) O 1 dX1_afterWaiting_31 rfl rfl ?_
  refine E_iconst (pc := 32) O (0 : Int32) dX1_afterWaiting_32 (by decide) ?_
  refine E_iastore (pc := 33) O dX1_afterWaiting_33 hf (fun h2 hf => ?_)
  refine E_iconst (pc := 34) O (1 : Int32) dX1_afterWaiting_34 (by decide) ?_
  exact E_iret (pc := 35) O Z hf ⟨(Nat.le_of_ble_eq_true rfl), (Nat.le_of_ble_eq_true rfl)⟩ dX1_afterWaiting_35
set_option maxHeartbeats 4000000 in
set_option maxRecDepth 100000 in
theorem t_X1_afterWaiting {g : Gx} {fr : Bool} {h : MH} {x0 x1} {out : (Int32 × MH)} (hf : f_X1_afterWaiting h x0 x1 = some out) : MM g yX1_afterWaiting cX1_afterWaiting 2 (some .int) 2 45 0 0 fr fr [.ref x0, .int x1] h (some (.int out.1)) out.2 := by
  unfold f_X1_afterWaiting at hf
  refine MM_of (L := [some (.ref x0), some (.int x1)]) (by decide) (Nat.le_of_ble_eq_true rfl) rfl (fun K hK O Z hn => ?_)
  refine E_aload_n (pc := 0) O 0 dX1_afterWaiting_0 rfl rfl ?_
  refine E_iload_n (pc := 1) O 1 dX1_afterWaiting_1 rfl rfl ?_
  refine E_callV_iP (pc := 2) (S := []) O [.int x1] CV_RailSequence_Plant_85 rfl (fun r e => t_X1_isWanted e) dX1_afterWaiting_2 hf rfl ⟨(Nat.le_of_ble_eq_true rfl), (Nat.le_of_ble_eq_true rfl)⟩ ⟨(Nat.le_of_ble_eq_true rfl), (Nat.le_of_ble_eq_true rfl)⟩ (Nat.le_of_ble_eq_true rfl) (fun v3 hf => ?_)
  refine E_if_ne (pc := 5) O 10 dX1_afterWaiting_5 (by decide) hf (fun hf => ?_) (fun hf => ?_)
  · refine E_aload_n (pc := 10) O 0 dX1_afterWaiting_10 rfl rfl ?_
    refine E_iload_n (pc := 11) O 1 dX1_afterWaiting_11 rfl rfl ?_
    refine E_callV_iP (pc := 12) (S := []) O [.int x1] CV_RailSequence_Plant_105 rfl (fun r e => t_X1_isDischarged e) dX1_afterWaiting_12 hf rfl ⟨(Nat.le_of_ble_eq_true rfl), (Nat.le_of_ble_eq_true rfl)⟩ ⟨(Nat.le_of_ble_eq_true rfl), (Nat.le_of_ble_eq_true rfl)⟩ (Nat.le_of_ble_eq_true rfl) (fun v4 hf => ?_)
    refine E_if_eq (pc := 15) O 27 dX1_afterWaiting_15 (by decide) hf (fun hf => ?_) (fun hf => ?_)
    · exact t_b_X1_afterWaiting_27 O Z h x0 x1 hf
    · refine E_aload_n (pc := 18) O 0 dX1_afterWaiting_18 rfl rfl ?_
      refine E_iload_n (pc := 19) O 1 dX1_afterWaiting_19 rfl rfl ?_
      refine E_callV_iP (pc := 20) (S := []) O [.int x1] CV_RailSequence_Plant_147 rfl (fun r e => t_X1_lowestBadNeed e) dX1_afterWaiting_20 hf rfl ⟨(Nat.le_of_ble_eq_true rfl), (Nat.le_of_ble_eq_true rfl)⟩ ⟨(Nat.le_of_ble_eq_true rfl), (Nat.le_of_ble_eq_true rfl)⟩ (Nat.le_of_ble_eq_true rfl) (fun v5 hf => ?_)
      refine E_iconst (pc := 23) O (-1 : Int32) dX1_afterWaiting_23 (by decide) ?_
      refine E_icmp_eq (pc := 24) O 36 dX1_afterWaiting_24 (by decide) hf (fun hf => ?_) (fun hf => ?_)
      · refine E_aload_n (pc := 36) O 0 dX1_afterWaiting_36 rfl rfl ?_
        refine E_getR (pc := 37) O FL_RailSequence_Plant_34 dX1_afterWaiting_37 hf (fun v6 hf => ?_)
        refine E_iload_n (pc := 40) O 1 dX1_afterWaiting_40 rfl rfl ?_
        refine E_dup2 (pc := 41) O dX1_afterWaiting_41 rfl rfl ?_
        refine E_iaload (pc := 42) O dX1_afterWaiting_42 hf (fun v7 hf => ?_)
        refine E_iconst (pc := 43) O (1 : Int32) dX1_afterWaiting_43 (by decide) ?_
        refine E_iadd (pc := 44) O dX1_afterWaiting_44 ?_
        refine E_iastore (pc := 45) O dX1_afterWaiting_45 hf (fun h8 hf => ?_)
        refine E_aload_n (pc := 46) O 0 dX1_afterWaiting_46 rfl rfl ?_
        refine E_getR (pc := 47) O FL_RailSequence_Plant_34 dX1_afterWaiting_47 hf (fun v9 hf => ?_)
        refine E_iload_n (pc := 50) O 1 dX1_afterWaiting_50 rfl rfl ?_
        refine E_iaload (pc := 51) O dX1_afterWaiting_51 hf (fun v10 hf => ?_)
        refine E_aload_n (pc := 52) O 0 dX1_afterWaiting_52 rfl rfl ?_
        refine E_iload_n (pc := 53) O 1 dX1_afterWaiting_53 rfl rfl ?_
        refine E_iconst (pc := 54) O (4 : Int32) dX1_afterWaiting_54 (by decide) ?_
        refine E_callV_iP (pc := 55) (S := [.int v10]) O [.int x1, .int (4 : Int32)] CV_RailSequence_Plant_95 rfl (fun r e => t_X1_propertyOf e) dX1_afterWaiting_55 hf rfl ⟨(Nat.le_of_ble_eq_true rfl), (Nat.le_of_ble_eq_true rfl)⟩ ⟨(Nat.le_of_ble_eq_true rfl), (Nat.le_of_ble_eq_true rfl)⟩ (Nat.le_of_ble_eq_true rfl) (fun v11 hf => ?_)
        refine E_icmp_gt (pc := 58) O 63 dX1_afterWaiting_58 (by decide) hf (fun hf => ?_) (fun hf => ?_)
        · refine E_aload_n (pc := 63) O 0 dX1_afterWaiting_63 rfl rfl ?_
          refine E_getR (pc := 64) O FL_RailSequence_Plant_34 dX1_afterWaiting_64 hf (fun v12 hf => ?_)
          refine E_iload_n (pc := 67) O 1 dX1_afterWaiting_67 rfl rfl ?_
          refine E_iconst (pc := 68) O (0 : Int32) dX1_afterWaiting_68 (by decide) ?_
          refine E_iastore (pc := 69) O dX1_afterWaiting_69 hf (fun h13 hf => ?_)
          refine E_iconst (pc := 70) O (2 : Int32) dX1_afterWaiting_70 (by decide) ?_
          exact E_iret (pc := 71) O Z hf ⟨(Nat.le_of_ble_eq_true rfl), (Nat.le_of_ble_eq_true rfl)⟩ dX1_afterWaiting_71
        · refine E_iconst (pc := 61) O (1 : Int32) dX1_afterWaiting_61 (by decide) ?_
          exact E_iret (pc := 62) O Z hf ⟨(Nat.le_of_ble_eq_true rfl), (Nat.le_of_ble_eq_true rfl)⟩ dX1_afterWaiting_62
      · exact t_b_X1_afterWaiting_27 O Z h x0 x1 hf
  · refine E_iconst (pc := 8) O (0 : Int32) dX1_afterWaiting_8 (by decide) ?_
    exact E_iret (pc := 9) O Z hf ⟨(Nat.le_of_ble_eq_true rfl), (Nat.le_of_ble_eq_true rfl)⟩ dX1_afterWaiting_9
set_option maxHeartbeats 4000000 in
set_option maxRecDepth 100000 in
theorem t_b_X1_afterFailure_52 {K : Cx} {fr : Bool} {out : (Int32 × MH)} (O : Ok K yX1_afterFailure.cls cX1_afterFailure 2 (rmm 1 22 0 0)) (Z : Out K (some .int) fr (some (.int out.1)) out.2) (h : MH) (s0 : Int32) (hf : b_X1_afterFailure_52 h s0 = some out) : EE K (fr, 0, 0) 52 [none, none] [.int s0] h := by
  unfold b_X1_afterFailure_52 at hf
  exact E_iret (pc := 52) O Z hf ⟨(Nat.le_of_ble_eq_true rfl), (Nat.le_of_ble_eq_true rfl)⟩ dX1_afterFailure_52
set_option maxHeartbeats 4000000 in
set_option maxRecDepth 100000 in
theorem t_X1_afterFailure {g : Gx} {fr : Bool} {h : MH} {x0 x1} {out : (Int32 × MH)} (hf : f_X1_afterFailure h x0 x1 = some out) : MM g yX1_afterFailure cX1_afterFailure 2 (some .int) 1 22 0 0 fr fr [.ref x0, .int x1] h (some (.int out.1)) out.2 := by
  unfold f_X1_afterFailure at hf
  refine MM_of (L := [some (.ref x0), some (.int x1)]) (by decide) (Nat.le_of_ble_eq_true rfl) rfl (fun K hK O Z hn => ?_)
  refine E_aload_n (pc := 0) O 0 dX1_afterFailure_0 rfl rfl ?_
  refine E_getR (pc := 1) O FL_RailSequence_Plant_40 dX1_afterFailure_1 hf (fun v1 hf => ?_)
  refine E_iload_n (pc := 4) O 1 dX1_afterFailure_4 rfl rfl ?_
  refine E_iload_n (pc := 5) O 1 dX1_afterFailure_5 rfl rfl ?_
  refine E_iastore (pc := 6) O dX1_afterFailure_6 hf (fun h2 hf => ?_)
  refine E_aload_n (pc := 7) O 0 dX1_afterFailure_7 rfl rfl ?_
  refine E_getR (pc := 8) O FL_RailSequence_Plant_37 dX1_afterFailure_8 hf (fun v3 hf => ?_)
  refine E_iload_n (pc := 11) O 1 dX1_afterFailure_11 rfl rfl ?_
  refine E_dup2 (pc := 12) O dX1_afterFailure_12 rfl rfl ?_
  refine E_iaload (pc := 13) O dX1_afterFailure_13 hf (fun v4 hf => ?_)
  refine E_iconst (pc := 14) O (1 : Int32) dX1_afterFailure_14 (by decide) ?_
  refine E_iadd (pc := 15) O dX1_afterFailure_15 ?_
  refine E_iastore (pc := 16) O dX1_afterFailure_16 hf (fun h5 hf => ?_)
  refine E_aload_n (pc := 17) O 0 dX1_afterFailure_17 rfl rfl ?_
  refine E_getR (pc := 18) O FL_RailSequence_Plant_43 dX1_afterFailure_18 hf (fun v6 hf => ?_)
  refine E_iload_n (pc := 21) O 1 dX1_afterFailure_21 rfl rfl ?_
  refine E_iconst (pc := 22) O (4 : Int32) dX1_afterFailure_22 (by decide) ?_
  refine E_imul (pc := 23) O dX1_afterFailure_23 ?_
  refine E_iconst (pc := 24) O (2 : Int32) dX1_afterFailure_24 (by decide) ?_
  refine E_iadd (pc := 25) O dX1_afterFailure_25 ?_
  refine E_dup2 (pc := 26) O dX1_afterFailure_26 rfl rfl ?_
  refine E_iaload (pc := 27) O dX1_afterFailure_27 hf (fun v7 hf => ?_)
  refine E_iconst (pc := 28) O (1 : Int32) dX1_afterFailure_28 (by decide) ?_
  refine E_iadd (pc := 29) O dX1_afterFailure_29 ?_
  refine E_iastore (pc := 30) O dX1_afterFailure_30 hf (fun h8 hf => ?_)
  refine E_aload_n (pc := 31) O 0 dX1_afterFailure_31 rfl rfl ?_
  refine E_getR (pc := 32) O FL_RailSequence_Plant_37 dX1_afterFailure_32 hf (fun v9 hf => ?_)
  refine E_iload_n (pc := 35) O 1 dX1_afterFailure_35 rfl rfl ?_
  refine E_iaload (pc := 36) O dX1_afterFailure_36 hf (fun v10 hf => ?_)
  refine E_aload_n (pc := 37) O 0 dX1_afterFailure_37 rfl rfl ?_
  refine E_iload_n (pc := 38) O 1 dX1_afterFailure_38 rfl rfl ?_
  refine E_bipush (pc := 39) O (6 : Int32) dX1_afterFailure_39 (by decide) ?_
  refine E_callV_iP (pc := 41) (S := [.int v10]) O [.int x1, .int (6 : Int32)] CV_RailSequence_Plant_95 rfl (fun r e => t_X1_propertyOf e) dX1_afterFailure_41 hf rfl ⟨(Nat.le_of_ble_eq_true rfl), (Nat.le_of_ble_eq_true rfl)⟩ ⟨(Nat.le_of_ble_eq_true rfl), (Nat.le_of_ble_eq_true rfl)⟩ (Nat.le_of_ble_eq_true rfl) (fun v11 hf => ?_)
  refine E_icmp_lt (pc := 44) O 51 dX1_afterFailure_44 (by decide) hf (fun hf => ?_) (fun hf => ?_)
  · refine E_iconst (pc := 51) O (4 : Int32) dX1_afterFailure_51 (by decide) ?_
    exact E_sub (L' := [none, none]) True.intro (t_b_X1_afterFailure_52 O Z h8 (4 : Int32) hf)
  · refine E_iconst (pc := 47) O (5 : Int32) dX1_afterFailure_47 (by decide) ?_
    refine E_goto (pc := 48) O 52 dX1_afterFailure_48 (by decide) ?_
    exact E_sub (L' := [none, none]) True.intro (t_b_X1_afterFailure_52 O Z h8 (5 : Int32) hf)
set_option maxHeartbeats 4000000 in
set_option maxRecDepth 100000 in
theorem t_b_X1_afterRising_88 {K : Cx} {fr : Bool} {out : (Int32 × MH)} (O : Ok K yX1_afterRising.cls cX1_afterRising 3 (rmm 2 45 0 0)) (Z : Out K (some .int) fr (some (.int out.1)) out.2) (h : MH) (s0 : Int32) (hf : b_X1_afterRising_88 h s0 = some out) : EE K (fr, 0, 0) 88 [none, none, none] [.int s0] h := by
  unfold b_X1_afterRising_88 at hf
  exact E_iret (pc := 88) O Z hf ⟨(Nat.le_of_ble_eq_true rfl), (Nat.le_of_ble_eq_true rfl)⟩ dX1_afterRising_88
set_option maxHeartbeats 4000000 in
set_option maxRecDepth 100000 in
theorem t_X1_afterRising {g : Gx} {fr : Bool} {h : MH} {x0 x1} {out : (Int32 × MH)} (hf : f_X1_afterRising h x0 x1 = some out) : MM g yX1_afterRising cX1_afterRising 3 (some .int) 2 45 0 0 fr fr [.ref x0, .int x1] h (some (.int out.1)) out.2 := by
  unfold f_X1_afterRising at hf
  refine MM_of (L := [some (.ref x0), some (.int x1), none]) (by decide) (Nat.le_of_ble_eq_true rfl) rfl (fun K hK O Z hn => ?_)
  refine E_aload_n (pc := 0) O 0 dX1_afterRising_0 rfl rfl ?_
  refine E_iload_n (pc := 1) O 1 dX1_afterRising_1 rfl rfl ?_
  refine E_callV_iP (pc := 2) (S := []) O [.int x1] CV_RailSequence_Plant_85 rfl (fun r e => t_X1_isWanted e) dX1_afterRising_2 hf rfl ⟨(Nat.le_of_ble_eq_true rfl), (Nat.le_of_ble_eq_true rfl)⟩ ⟨(Nat.le_of_ble_eq_true rfl), (Nat.le_of_ble_eq_true rfl)⟩ (Nat.le_of_ble_eq_true rfl) (fun v1 hf => ?_)
  refine E_if_ne (pc := 5) O 17 dX1_afterRising_5 (by decide) hf (fun hf => ?_) (fun hf => ?_)
  · refine E_aload_n (pc := 17) O 0 dX1_afterRising_17 rfl rfl ?_
    refine E_iload_n (pc := 18) O 1 dX1_afterRising_18 rfl rfl ?_
    refine E_callV_iP (pc := 19) (S := []) O [.int x1] CV_RailSequence_Plant_147 rfl (fun r e => t_X1_lowestBadNeed e) dX1_afterRising_19 hf rfl ⟨(Nat.le_of_ble_eq_true rfl), (Nat.le_of_ble_eq_true rfl)⟩ ⟨(Nat.le_of_ble_eq_true rfl), (Nat.le_of_ble_eq_true rfl)⟩ (Nat.le_of_ble_eq_true rfl) (fun v2 hf => ?_)
    refine E_istore_n (pc := 22) O 2 [some (.ref x0), some (.int x1), some (.int v2)] dX1_afterRising_22 rfl (by decide) rfl rfl ?_
    refine E_iload_n (pc := 23) O 2 dX1_afterRising_23 rfl rfl ?_
    refine E_iconst (pc := 24) O (-1 : Int32) dX1_afterRising_24 (by decide) ?_
    refine E_icmp_eq (pc := 25) O 37 dX1_afterRising_25 (by decide) hf (fun hf => ?_) (fun hf => ?_)
    · refine E_aload_n (pc := 37) O 0 dX1_afterRising_37 rfl rfl ?_
      refine E_iload_n (pc := 38) O 1 dX1_afterRising_38 rfl rfl ?_
      refine E_callV_iP (pc := 39) (S := []) O [.int x1] CV_RailSequence_Plant_89 rfl (fun r e => t_X1_hasFlag e) dX1_afterRising_39 hf rfl ⟨(Nat.le_of_ble_eq_true rfl), (Nat.le_of_ble_eq_true rfl)⟩ ⟨(Nat.le_of_ble_eq_true rfl), (Nat.le_of_ble_eq_true rfl)⟩ (Nat.le_of_ble_eq_true rfl) (fun v3 hf => ?_)
      refine E_if_eq (pc := 42) O 54 dX1_afterRising_42 (by decide) hf (fun hf => ?_) (fun hf => ?_)
      · refine E_aload_n (pc := 54) O 0 dX1_afterRising_54 rfl rfl ?_
        refine E_getR (pc := 55) O FL_RailSequence_Plant_34 dX1_afterRising_55 hf (fun v4 hf => ?_)
        refine E_iload_n (pc := 58) O 1 dX1_afterRising_58 rfl rfl ?_
        refine E_dup2 (pc := 59) O dX1_afterRising_59 rfl rfl ?_
        refine E_iaload (pc := 60) O dX1_afterRising_60 hf (fun v5 hf => ?_)
        refine E_iconst (pc := 61) O (1 : Int32) dX1_afterRising_61 (by decide) ?_
        refine E_iadd (pc := 62) O dX1_afterRising_62 ?_
        refine E_iastore (pc := 63) O dX1_afterRising_63 hf (fun h6 hf => ?_)
        refine E_aload_n (pc := 64) O 0 dX1_afterRising_64 rfl rfl ?_
        refine E_getR (pc := 65) O FL_RailSequence_Plant_34 dX1_afterRising_65 hf (fun v7 hf => ?_)
        refine E_iload_n (pc := 68) O 1 dX1_afterRising_68 rfl rfl ?_
        refine E_iaload (pc := 69) O dX1_afterRising_69 hf (fun v8 hf => ?_)
        refine E_aload_n (pc := 70) O 0 dX1_afterRising_70 rfl rfl ?_
        refine E_iload_n (pc := 71) O 1 dX1_afterRising_71 rfl rfl ?_
        refine E_iconst (pc := 72) O (5 : Int32) dX1_afterRising_72 (by decide) ?_
        refine E_callV_iP (pc := 73) (S := [.int v8]) O [.int x1, .int (5 : Int32)] CV_RailSequence_Plant_95 rfl (fun r e => t_X1_propertyOf e) dX1_afterRising_73 hf rfl ⟨(Nat.le_of_ble_eq_true rfl), (Nat.le_of_ble_eq_true rfl)⟩ ⟨(Nat.le_of_ble_eq_true rfl), (Nat.le_of_ble_eq_true rfl)⟩ (Nat.le_of_ble_eq_true rfl) (fun v9 hf => ?_)
        refine E_icmp_lt (pc := 76) O 87 dX1_afterRising_76 (by decide) hf (fun hf => ?_) (fun hf => ?_)
        · refine E_iconst (pc := 87) O (2 : Int32) dX1_afterRising_87 (by decide) ?_
          exact E_sub (L' := [none, none, none]) True.intro (t_b_X1_afterRising_88 O Z h6 (2 : Int32) hf)
        · refine E_aload_n (pc := 79) O 0 dX1_afterRising_79 rfl rfl ?_
          refine E_iload_n (pc := 80) O 1 dX1_afterRising_80 rfl rfl ?_
          refine E_callV_i (pc := 81) (S := []) O [.int x1] CV_RailSequence_Plant_150 rfl (fun r e => t_X1_afterFailure e) dX1_afterRising_81 hf rfl ⟨(Nat.le_of_ble_eq_true rfl), (Nat.le_of_ble_eq_true rfl)⟩ ⟨(Nat.le_of_ble_eq_true rfl), (Nat.le_of_ble_eq_true rfl)⟩ (Nat.le_of_ble_eq_true rfl) (fun p10 hf => ?_)
          refine E_goto (pc := 84) O 88 dX1_afterRising_84 (by decide) ?_
          exact E_sub (L' := [none, none, none]) True.intro (t_b_X1_afterRising_88 O Z p10.2 p10.1 hf)
      · refine E_aload_n (pc := 45) O 0 dX1_afterRising_45 rfl rfl ?_
        refine E_getR (pc := 46) O FL_RailSequence_Plant_40 dX1_afterRising_46 hf (fun v11 hf => ?_)
        refine E_iload_n (pc := 49) O 1 dX1_afterRising_49 rfl rfl ?_
        refine E_iconst (pc := 50) O (-1 : Int32) dX1_afterRising_50 (by decide) ?_
        refine E_iastore (pc := 51) O dX1_afterRising_51 hf (fun h12 hf => ?_)
        refine E_iconst (pc := 52) O (3 : Int32) dX1_afterRising_52 (by decide) ?_
        exact E_iret (pc := 53) O Z hf ⟨(Nat.le_of_ble_eq_true rfl), (Nat.le_of_ble_eq_true rfl)⟩ dX1_afterRising_53
    · refine E_aload_n (pc := 28) O 0 dX1_afterRising_28 rfl rfl ?_
      refine E_getR (pc := 29) O FL_RailSequence_Plant_40 dX1_afterRising_29 hf (fun v13 hf => ?_)
      refine E_iload_n (pc := 32) O 1 dX1_afterRising_32 rfl rfl ?_
      refine E_iload_n (pc := 33) O 2 dX1_afterRising_33 rfl rfl ?_
      refine E_iastore (pc := 34) O dX1_afterRising_34 hf (fun h14 hf => ?_)
      refine E_iconst (pc := 35) O (4 : Int32) dX1_afterRising_35 (by decide) ?_
      exact E_iret (pc := 36) O Z hf ⟨(Nat.le_of_ble_eq_true rfl), (Nat.le_of_ble_eq_true rfl)⟩ dX1_afterRising_36
  · refine E_aload_n (pc := 8) O 0 dX1_afterRising_8 rfl rfl ?_
    refine E_getR (pc := 9) O FL_RailSequence_Plant_40 dX1_afterRising_9 hf (fun v15 hf => ?_)
    refine E_iload_n (pc := 12) O 1 dX1_afterRising_12 rfl rfl ?_
    refine E_iconst (pc := 13) O (-1 : Int32) dX1_afterRising_13 (by decide) ?_
    refine E_iastore (pc := 14) O dX1_afterRising_14 hf (fun h16 hf => ?_)
    refine E_iconst (pc := 15) O (4 : Int32) dX1_afterRising_15 (by decide) ?_
    exact E_iret (pc := 16) O Z hf ⟨(Nat.le_of_ble_eq_true rfl), (Nat.le_of_ble_eq_true rfl)⟩ dX1_afterRising_16
set_option maxHeartbeats 4000000 in
set_option maxRecDepth 100000 in
theorem t_b_X1_areUsersAtRest_74 {K : Cx} {fr : Bool} {out : Int32} {h : MH} (O : Ok K yX1_areUsersAtRest.cls cX1_areUsersAtRest 5 (rmm 1 21 0 0)) (Z : Out K (some .boolean) fr (some (.int out)) h)  (hf : b_X1_areUsersAtRest_74 h  = some out) : EE K (fr, 0, 0) 74 [none, none, none, none, none] [] h := by
  unfold b_X1_areUsersAtRest_74 at hf
  refine E_iconst (pc := 74) O (0 : Int32) dX1_areUsersAtRest_74 (by decide) ?_
  exact E_zretP (pc := 75) O Z hf ⟨(Nat.le_of_ble_eq_true rfl), (Nat.le_of_ble_eq_true rfl)⟩ dX1_areUsersAtRest_75
set_option maxHeartbeats 4000000 in
set_option maxRecDepth 100000 in
theorem t_b_X1_areUsersAtRest_76 {K : Cx} {fr : Bool} {out : Int32} {h : MH} (O : Ok K yX1_areUsersAtRest.cls cX1_areUsersAtRest 5 (rmm 1 21 0 0)) (Z : Out K (some .boolean) fr (some (.int out)) h) (rec4 : Nat → Int32 → Int32 → Option Int32) (hr4 : ∀ (x0 : Nat) (x1 : Int32) (x2 : Int32), rec4 x0 x1 x2 = some out → EE K (fr, 0, 0) 4 [some (.ref x0), some (.int x1), some (.int x2), none, none] [] h) (x0 : Nat) (x1 : Int32) (x2 : Int32) (hf : b_X1_areUsersAtRest_76 h rec4 x0 x1 x2 = some out) : EE K (fr, 0, 0) 76 [some (.ref x0), some (.int x1), some (.int x2), none, none] [] h := by
  unfold b_X1_areUsersAtRest_76 at hf
  refine E_iinc (pc := 76) O (1 : Int32) [some (.ref x0), some (.int x1), some (.int (x2 + (1 : Int32))), none, none] dX1_areUsersAtRest_76 rfl (by decide) rfl (by decide) rfl ?_
  refine E_goto (pc := 79) O 4 dX1_areUsersAtRest_79 (by decide) ?_
  exact hr4 x0 x1 (x2 + (1 : Int32)) hf
set_option maxHeartbeats 4000000 in
set_option maxRecDepth 100000 in
theorem t_b_X1_areUsersAtRest_55 {K : Cx} {fr : Bool} {out : Int32} {h : MH} (O : Ok K yX1_areUsersAtRest.cls cX1_areUsersAtRest 5 (rmm 1 21 0 0)) (Z : Out K (some .boolean) fr (some (.int out)) h) (rec4 : Nat → Int32 → Int32 → Option Int32) (hr4 : ∀ (x0 : Nat) (x1 : Int32) (x2 : Int32), rec4 x0 x1 x2 = some out → EE K (fr, 0, 0) 4 [some (.ref x0), some (.int x1), some (.int x2), none, none] [] h) (x0 : Nat) (x1 : Int32) (x2 : Int32) (x3 : Int32) (s0 : Int32) (hf : b_X1_areUsersAtRest_55 h rec4 x0 x1 x2 x3 s0 = some out) : EE K (fr, 0, 0) 55 [some (.ref x0), some (.int x1), some (.int x2), some (.int x3), none] [.int s0] h := by
  unfold b_X1_areUsersAtRest_55 at hf
  refine E_istore (pc := 55) O [some (.ref x0), some (.int x1), some (.int x2), some (.int x3), some (.int s0)] dX1_areUsersAtRest_55 (by decide) rfl rfl ?_
  refine E_iload_n (pc := 57) O 3 dX1_areUsersAtRest_57 rfl rfl ?_
  refine E_if_eq (pc := 58) O 76 dX1_areUsersAtRest_58 (by decide) hf (fun hf => ?_) (fun hf => ?_)
  · exact E_sub (L' := [some (.ref x0), some (.int x1), some (.int x2), none, none]) (And.intro rfl (And.intro rfl (And.intro rfl True.intro))) (t_b_X1_areUsersAtRest_76 O Z _ hr4 x0 x1 x2 hf)
  · refine E_iload (pc := 61) O dX1_areUsersAtRest_61 rfl ?_
    refine E_if_eq (pc := 63) O 74 dX1_areUsersAtRest_63 (by decide) hf (fun hf => ?_) (fun hf => ?_)
    · exact E_sub (L' := [none, none, none, none, none]) True.intro (t_b_X1_areUsersAtRest_74 O Z  hf)
    · refine E_aload_n (pc := 66) O 0 dX1_areUsersAtRest_66 rfl rfl ?_
      refine E_iload_n (pc := 67) O 2 dX1_areUsersAtRest_67 rfl rfl ?_
      refine E_callV_iP (pc := 68) (S := []) O [.int x2] CV_RailSequence_Plant_105 rfl (fun r e => t_X1_isDischarged e) dX1_areUsersAtRest_68 hf rfl ⟨(Nat.le_of_ble_eq_true rfl), (Nat.le_of_ble_eq_true rfl)⟩ ⟨(Nat.le_of_ble_eq_true rfl), (Nat.le_of_ble_eq_true rfl)⟩ (Nat.le_of_ble_eq_true rfl) (fun v1 hf => ?_)
      refine E_if_ne (pc := 71) O 76 dX1_areUsersAtRest_71 (by decide) hf (fun hf => ?_) (fun hf => ?_)
      · exact E_sub (L' := [some (.ref x0), some (.int x1), some (.int x2), none, none]) (And.intro rfl (And.intro rfl (And.intro rfl True.intro))) (t_b_X1_areUsersAtRest_76 O Z _ hr4 x0 x1 x2 hf)
      · exact E_sub (L' := [none, none, none, none, none]) True.intro (t_b_X1_areUsersAtRest_74 O Z  hf)
set_option maxHeartbeats 4000000 in
set_option maxRecDepth 100000 in
theorem t_b_X1_areUsersAtRest_50 {K : Cx} {fr : Bool} {out : Int32} {h : MH} (O : Ok K yX1_areUsersAtRest.cls cX1_areUsersAtRest 5 (rmm 1 21 0 0)) (Z : Out K (some .boolean) fr (some (.int out)) h) (rec4 : Nat → Int32 → Int32 → Option Int32) (hr4 : ∀ (x0 : Nat) (x1 : Int32) (x2 : Int32), rec4 x0 x1 x2 = some out → EE K (fr, 0, 0) 4 [some (.ref x0), some (.int x1), some (.int x2), none, none] [] h) (x0 : Nat) (x1 : Int32) (x2 : Int32) (x3 : Int32) (hf : b_X1_areUsersAtRest_50 h rec4 x0 x1 x2 x3 = some out) : EE K (fr, 0, 0) 50 [some (.ref x0), some (.int x1), some (.int x2), some (.int x3), none] [] h := by
  unfold b_X1_areUsersAtRest_50 at hf
  refine E_iconst (pc := 50) O (1 : Int32) dX1_areUsersAtRest_50 (by decide) ?_
  refine E_goto (pc := 51) O 55 dX1_areUsersAtRest_51 (by decide) ?_
  exact t_b_X1_areUsersAtRest_55 O Z _ hr4 x0 x1 x2 x3 (1 : Int32) hf
set_option maxHeartbeats 4000000 in
set_option maxRecDepth 100000 in
theorem t_b_X1_areUsersAtRest_30 {K : Cx} {fr : Bool} {out : Int32} {h : MH} (O : Ok K yX1_areUsersAtRest.cls cX1_areUsersAtRest 5 (rmm 1 21 0 0)) (Z : Out K (some .boolean) fr (some (.int out)) h) (rec4 : Nat → Int32 → Int32 → Option Int32) (hr4 : ∀ (x0 : Nat) (x1 : Int32) (x2 : Int32), rec4 x0 x1 x2 = some out → EE K (fr, 0, 0) 4 [some (.ref x0), some (.int x1), some (.int x2), none, none] [] h) (x0 : Nat) (x1 : Int32) (x2 : Int32) (s0 : Int32) (hf : b_X1_areUsersAtRest_30 h rec4 x0 x1 x2 s0 = some out) : EE K (fr, 0, 0) 30 [some (.ref x0), some (.int x1), some (.int x2), none, none] [.int s0] h := by
  unfold b_X1_areUsersAtRest_30 at hf
  refine E_istore_n (pc := 30) O 3 [some (.ref x0), some (.int x1), some (.int x2), some (.int s0), none] dX1_areUsersAtRest_30 rfl (by decide) rfl rfl ?_
  refine E_aload_n (pc := 31) O 0 dX1_areUsersAtRest_31 rfl rfl ?_
  refine E_getR (pc := 32) O FL_RailSequence_Plant_53 dX1_areUsersAtRest_32 hf (fun v2 hf => ?_)
  refine E_iload_n (pc := 35) O 2 dX1_areUsersAtRest_35 rfl rfl ?_
  refine E_iaload (pc := 36) O dX1_areUsersAtRest_36 hf (fun v3 hf => ?_)
  refine E_if_eq (pc := 37) O 50 dX1_areUsersAtRest_37 (by decide) hf (fun hf => ?_) (fun hf => ?_)
  · exact t_b_X1_areUsersAtRest_50 O Z _ hr4 x0 x1 x2 s0 hf
  · refine E_aload_n (pc := 40) O 0 dX1_areUsersAtRest_40 rfl rfl ?_
    refine E_getR (pc := 41) O FL_RailSequence_Plant_53 dX1_areUsersAtRest_41 hf (fun v4 hf => ?_)
    refine E_iload_n (pc := 44) O 2 dX1_areUsersAtRest_44 rfl rfl ?_
    refine E_iaload (pc := 45) O dX1_areUsersAtRest_45 hf (fun v5 hf => ?_)
    refine E_iconst (pc := 46) O (5 : Int32) dX1_areUsersAtRest_46 (by decide) ?_
    refine E_icmp_ne (pc := 47) O 54 dX1_areUsersAtRest_47 (by decide) hf (fun hf => ?_) (fun hf => ?_)
    · refine E_iconst (pc := 54) O (0 : Int32) dX1_areUsersAtRest_54 (by decide) ?_
      exact t_b_X1_areUsersAtRest_55 O Z _ hr4 x0 x1 x2 s0 (0 : Int32) hf
    · exact t_b_X1_areUsersAtRest_50 O Z _ hr4 x0 x1 x2 s0 hf
set_option maxHeartbeats 4000000 in
set_option maxRecDepth 100000 in
theorem t_b_X1_areUsersAtRest_4 {K : Cx} {fr : Bool} {out : Int32} {h : MH} (O : Ok K yX1_areUsersAtRest.cls cX1_areUsersAtRest 5 (rmm 1 21 0 0)) (Z : Out K (some .boolean) fr (some (.int out)) h) (rec4 : Nat → Int32 → Int32 → Option Int32) (hr4 : ∀ (x0 : Nat) (x1 : Int32) (x2 : Int32), rec4 x0 x1 x2 = some out → EE K (fr, 0, 0) 4 [some (.ref x0), some (.int x1), some (.int x2), none, none] [] h) (x0 : Nat) (x1 : Int32) (x2 : Int32) (hf : b_X1_areUsersAtRest_4 h rec4 x0 x1 x2 = some out) : EE K (fr, 0, 0) 4 [some (.ref x0), some (.int x1), some (.int x2), none, none] [] h := by
  unfold b_X1_areUsersAtRest_4 at hf
  refine E_iload_n (pc := 4) O 2 dX1_areUsersAtRest_4 rfl rfl ?_
  refine E_aload_n (pc := 5) O 0 dX1_areUsersAtRest_5 rfl rfl ?_
  refine E_getI (pc := 6) O FL_RailSequence_Plant_62 dX1_areUsersAtRest_6 hf (fun v6 hf => ?_)
  refine E_icmp_ge (pc := 9) O 82 dX1_areUsersAtRest_9 (by decide) hf (fun hf => ?_) (fun hf => ?_)
  · refine E_iconst (pc := 82) O (1 : Int32) dX1_areUsersAtRest_82 (by decide) ?_
    exact E_zretP (pc := 83) O Z hf ⟨(Nat.le_of_ble_eq_true rfl), (Nat.le_of_ble_eq_true rfl)⟩ dX1_areUsersAtRest_83
  · refine E_aload_n (pc := 12) O 0 dX1_areUsersAtRest_12 rfl rfl ?_
    refine E_getR (pc := 13) O FL_RailSequence_Plant_19 dX1_areUsersAtRest_13 hf (fun v7 hf => ?_)
    refine E_iload_n (pc := 16) O 2 dX1_areUsersAtRest_16 rfl rfl ?_
    refine E_iaload (pc := 17) O dX1_areUsersAtRest_17 hf (fun v8 hf => ?_)
    refine E_iconst (pc := 18) O (1 : Int32) dX1_areUsersAtRest_18 (by decide) ?_
    refine E_iload_n (pc := 19) O 1 dX1_areUsersAtRest_19 rfl rfl ?_
    refine E_ishl (pc := 20) O dX1_areUsersAtRest_20 ?_
    refine E_iand (pc := 21) O dX1_areUsersAtRest_21 ?_
    refine E_if_eq (pc := 22) O 29 dX1_areUsersAtRest_22 (by decide) hf (fun hf => ?_) (fun hf => ?_)
    · refine E_iconst (pc := 29) O (0 : Int32) dX1_areUsersAtRest_29 (by decide) ?_
      exact t_b_X1_areUsersAtRest_30 O Z _ hr4 x0 x1 x2 (0 : Int32) hf
    · refine E_iconst (pc := 25) O (1 : Int32) dX1_areUsersAtRest_25 (by decide) ?_
      refine E_goto (pc := 26) O 30 dX1_areUsersAtRest_26 (by decide) ?_
      exact t_b_X1_areUsersAtRest_30 O Z _ hr4 x0 x1 x2 (1 : Int32) hf
theorem t_f_X1_areUsersAtRest_4 {K : Cx} {fr : Bool} {out : Int32} {h : MH} (O : Ok K yX1_areUsersAtRest.cls cX1_areUsersAtRest 5 (rmm 1 21 0 0)) (Z : Out K (some .boolean) fr (some (.int out)) h) : ∀ (n : Nat) (x0 : Nat) (x1 : Int32) (x2 : Int32), f_X1_areUsersAtRest_4 h n x0 x1 x2 = some out → EE K (fr, 0, 0) 4 [some (.ref x0), some (.int x1), some (.int x2), none, none] [] h := by
  intro n
  induction n with
  | zero => intro x0 x1 x2 hf; cases hf
  | succ n ih => intro x0 x1 x2 hf; exact t_b_X1_areUsersAtRest_4 O Z _ ih x0 x1 x2 hf
set_option maxHeartbeats 4000000 in
set_option maxRecDepth 100000 in
theorem t_X1_areUsersAtRest {g : Gx} {fr : Bool} {h : MH} {x0 x1} {out : Int32} (hf : f_X1_areUsersAtRest h x0 x1 = some out) : MM g yX1_areUsersAtRest cX1_areUsersAtRest 5 (some .boolean) 1 21 0 0 fr fr [.ref x0, .int x1] h (some (.int out)) h := by
  unfold f_X1_areUsersAtRest at hf
  refine MM_of (L := [some (.ref x0), some (.int x1), none, none, none]) (by decide) (Nat.le_of_ble_eq_true rfl) rfl (fun K hK O Z hn => ?_)
  refine E_iload_n (pc := 0) O 1 dX1_areUsersAtRest_0 rfl rfl ?_
  refine E_iconst (pc := 1) O (1 : Int32) dX1_areUsersAtRest_1 (by decide) ?_
  refine E_iadd (pc := 2) O dX1_areUsersAtRest_2 ?_
  obtain ⟨v9, ev9, hf⟩ := ob hf
  have ev9 := os ev9
  rw [ev9]
  refine E_istore_n (pc := 3) O 2 [some (.ref x0), some (.int x1), some (.int v9), none, none] dX1_areUsersAtRest_3 rfl (by decide) rfl rfl ?_
  exact t_f_X1_areUsersAtRest_4 O Z FU x0 x1 v9 hf
set_option maxHeartbeats 4000000 in
set_option maxRecDepth 100000 in
theorem t_b_X1_afterGood_59 {K : Cx} {fr : Bool} {out : (Int32 × MH)} (O : Ok K yX1_afterGood.cls cX1_afterGood 3 (rmm 2 45 0 0)) (Z : Out K (some .int) fr (some (.int out.1)) out.2) (h : MH) (hf : b_X1_afterGood_59 h = some out) : EE K (fr, 0, 0) 59 [none, none, none] [] h := by
  unfold b_X1_afterGood_59 at hf
  refine E_iconst (pc := 59) O (3 : Int32) dX1_afterGood_59 (by decide) ?_
  exact E_iret (pc := 60) O Z hf ⟨(Nat.le_of_ble_eq_true rfl), (Nat.le_of_ble_eq_true rfl)⟩ dX1_afterGood_60
set_option maxHeartbeats 4000000 in
set_option maxRecDepth 100000 in
theorem t_X1_afterGood {g : Gx} {fr : Bool} {h : MH} {x0 x1} {out : (Int32 × MH)} (hf : f_X1_afterGood h x0 x1 = some out) : MM g yX1_afterGood cX1_afterGood 3 (some .int) 2 45 0 0 fr fr [.ref x0, .int x1] h (some (.int out.1)) out.2 := by
  unfold f_X1_afterGood at hf
  refine MM_of (L := [some (.ref x0), some (.int x1), none]) (by decide) (Nat.le_of_ble_eq_true rfl) rfl (fun K hK O Z hn => ?_)
  refine E_aload_n (pc := 0) O 0 dX1_afterGood_0 rfl rfl ?_
  refine E_iload_n (pc := 1) O 1 dX1_afterGood_1 rfl rfl ?_
  refine E_callV_iP (pc := 2) (S := []) O [.int x1] CV_RailSequence_Plant_147 rfl (fun r e => t_X1_lowestBadNeed e) dX1_afterGood_2 hf rfl ⟨(Nat.le_of_ble_eq_true rfl), (Nat.le_of_ble_eq_true rfl)⟩ ⟨(Nat.le_of_ble_eq_true rfl), (Nat.le_of_ble_eq_true rfl)⟩ (Nat.le_of_ble_eq_true rfl) (fun v1 hf => ?_)
  refine E_istore_n (pc := 5) O 2 [some (.ref x0), some (.int x1), some (.int v1)] dX1_afterGood_5 rfl (by decide) rfl rfl ?_
  refine E_iload_n (pc := 6) O 2 dX1_afterGood_6 rfl rfl ?_
  refine E_iconst (pc := 7) O (-1 : Int32) dX1_afterGood_7 (by decide) ?_
  refine E_icmp_eq (pc := 8) O 20 dX1_afterGood_8 (by decide) hf (fun hf => ?_) (fun hf => ?_)
  · refine E_aload_n (pc := 20) O 0 dX1_afterGood_20 rfl rfl ?_
    refine E_iload_n (pc := 21) O 1 dX1_afterGood_21 rfl rfl ?_
    refine E_callV_iP (pc := 22) (S := []) O [.int x1] CV_RailSequence_Plant_89 rfl (fun r e => t_X1_hasFlag e) dX1_afterGood_22 hf rfl ⟨(Nat.le_of_ble_eq_true rfl), (Nat.le_of_ble_eq_true rfl)⟩ ⟨(Nat.le_of_ble_eq_true rfl), (Nat.le_of_ble_eq_true rfl)⟩ (Nat.le_of_ble_eq_true rfl) (fun v2 hf => ?_)
    refine E_if_ne (pc := 25) O 34 dX1_afterGood_25 (by decide) hf (fun hf => ?_) (fun hf => ?_)
    · refine E_aload_n (pc := 34) O 0 dX1_afterGood_34 rfl rfl ?_
      refine E_iload_n (pc := 35) O 1 dX1_afterGood_35 rfl rfl ?_
      refine E_callV_iP (pc := 36) (S := []) O [.int x1] CV_RailSequence_Plant_85 rfl (fun r e => t_X1_isWanted e) dX1_afterGood_36 hf rfl ⟨(Nat.le_of_ble_eq_true rfl), (Nat.le_of_ble_eq_true rfl)⟩ ⟨(Nat.le_of_ble_eq_true rfl), (Nat.le_of_ble_eq_true rfl)⟩ (Nat.le_of_ble_eq_true rfl) (fun v3 hf => ?_)
      refine E_if_ne (pc := 39) O 59 dX1_afterGood_39 (by decide) hf (fun hf => ?_) (fun hf => ?_)
      · exact E_sub (L' := [none, none, none]) True.intro (t_b_X1_afterGood_59 O Z h hf)
      · refine E_aload_n (pc := 42) O 0 dX1_afterGood_42 rfl rfl ?_
        refine E_iload_n (pc := 43) O 1 dX1_afterGood_43 rfl rfl ?_
        refine E_callV_iP (pc := 44) (S := []) O [.int x1] CV_RailSequence_Plant_153 rfl (fun r e => t_X1_areUsersAtRest e) dX1_afterGood_44 hf rfl ⟨(Nat.le_of_ble_eq_true rfl), (Nat.le_of_ble_eq_true rfl)⟩ ⟨(Nat.le_of_ble_eq_true rfl), (Nat.le_of_ble_eq_true rfl)⟩ (Nat.le_of_ble_eq_true rfl) (fun v4 hf => ?_)
        refine E_if_eq (pc := 47) O 59 dX1_afterGood_47 (by decide) hf (fun hf => ?_) (fun hf => ?_)
        · exact E_sub (L' := [none, none, none]) True.intro (t_b_X1_afterGood_59 O Z h hf)
        · refine E_aload_n (pc := 50) O 0 dX1_afterGood_50 rfl rfl ?_
          refine E_getR (pc := 51) O FL_RailSequence_Plant_40 dX1_afterGood_51 hf (fun v5 hf => ?_)
          refine E_iload_n (pc := 54) O 1 dX1_afterGood_54 rfl rfl ?_
          refine E_iconst (pc := 55) O (-1 : Int32) dX1_afterGood_55 (by decide) ?_
          refine E_iastore (pc := 56) O dX1_afterGood_56 hf (fun h6 hf => ?_)
          refine E_iconst (pc := 57) O (4 : Int32) dX1_afterGood_57 (by decide) ?_
          exact E_iret (pc := 58) O Z hf ⟨(Nat.le_of_ble_eq_true rfl), (Nat.le_of_ble_eq_true rfl)⟩ dX1_afterGood_58
    · refine E_aload_n (pc := 28) O 0 dX1_afterGood_28 rfl rfl ?_
      refine E_iload_n (pc := 29) O 1 dX1_afterGood_29 rfl rfl ?_
      refine E_callV_i (pc := 30) (S := []) O [.int x1] CV_RailSequence_Plant_150 rfl (fun r e => t_X1_afterFailure e) dX1_afterGood_30 hf rfl ⟨(Nat.le_of_ble_eq_true rfl), (Nat.le_of_ble_eq_true rfl)⟩ ⟨(Nat.le_of_ble_eq_true rfl), (Nat.le_of_ble_eq_true rfl)⟩ (Nat.le_of_ble_eq_true rfl) (fun p7 hf => ?_)
      exact E_iret (pc := 33) O Z hf ⟨(Nat.le_of_ble_eq_true rfl), (Nat.le_of_ble_eq_true rfl)⟩ dX1_afterGood_33
  · refine E_aload_n (pc := 11) O 0 dX1_afterGood_11 rfl rfl ?_
    refine E_getR (pc := 12) O FL_RailSequence_Plant_40 dX1_afterGood_12 hf (fun v8 hf => ?_)
    refine E_iload_n (pc := 15) O 1 dX1_afterGood_15 rfl rfl ?_
    refine E_iload_n (pc := 16) O 2 dX1_afterGood_16 rfl rfl ?_
    refine E_iastore (pc := 17) O dX1_afterGood_17 hf (fun h9 hf => ?_)
    refine E_iconst (pc := 18) O (4 : Int32) dX1_afterGood_18 (by decide) ?_
    exact E_iret (pc := 19) O Z hf ⟨(Nat.le_of_ble_eq_true rfl), (Nat.le_of_ble_eq_true rfl)⟩ dX1_afterGood_19
set_option maxHeartbeats 4000000 in
set_option maxRecDepth 100000 in
theorem t_X1_afterFalling {g : Gx} {fr : Bool} {h : MH} {x0 x1} {out : (Int32 × MH)} (hf : f_X1_afterFalling h x0 x1 = some out) : MM g yX1_afterFalling cX1_afterFalling 2 (some .int) 1 21 0 0 fr fr [.ref x0, .int x1] h (some (.int out.1)) out.2 := by
  unfold f_X1_afterFalling at hf
  refine MM_of (L := [some (.ref x0), some (.int x1)]) (by decide) (Nat.le_of_ble_eq_true rfl) rfl (fun K hK O Z hn => ?_)
  refine E_aload_n (pc := 0) O 0 dX1_afterFalling_0 rfl rfl ?_
  refine E_iload_n (pc := 1) O 1 dX1_afterFalling_1 rfl rfl ?_
  refine E_callV_iP (pc := 2) (S := []) O [.int x1] CV_RailSequence_Plant_105 rfl (fun r e => t_X1_isDischarged e) dX1_afterFalling_2 hf rfl ⟨(Nat.le_of_ble_eq_true rfl), (Nat.le_of_ble_eq_true rfl)⟩ ⟨(Nat.le_of_ble_eq_true rfl), (Nat.le_of_ble_eq_true rfl)⟩ (Nat.le_of_ble_eq_true rfl) (fun v1 hf => ?_)
  refine E_if_ne (pc := 5) O 10 dX1_afterFalling_5 (by decide) hf (fun hf => ?_) (fun hf => ?_)
  · refine E_aload_n (pc := 10) O 0 dX1_afterFalling_10 rfl rfl ?_
    refine E_iload_n (pc := 11) O 1 dX1_afterFalling_11 rfl rfl ?_
    refine E_callV_iP (pc := 12) (S := []) O [.int x1] CV_RailSequence_Plant_85 rfl (fun r e => t_X1_isWanted e) dX1_afterFalling_12 hf rfl ⟨(Nat.le_of_ble_eq_true rfl), (Nat.le_of_ble_eq_true rfl)⟩ ⟨(Nat.le_of_ble_eq_true rfl), (Nat.le_of_ble_eq_true rfl)⟩ (Nat.le_of_ble_eq_true rfl) (fun v2 hf => ?_)
    refine E_if_ne (pc := 15) O 20 dX1_afterFalling_15 (by decide) hf (fun hf => ?_) (fun hf => ?_)
    · refine E_aload_n (pc := 20) O 0 dX1_afterFalling_20 rfl rfl ?_
      refine E_getR (pc := 21) O FL_RailSequence_Plant_34 dX1_afterFalling_21 hf (fun v3 hf => ?_)
      refine E_iload_n (pc := 24) O 1 dX1_afterFalling_24 rfl rfl ?_
      refine E_iconst (pc := 25) O (0 : Int32) dX1_afterFalling_25 (by decide) ?_
      refine E_iastore (pc := 26) O dX1_afterFalling_26 hf (fun h4 hf => ?_)
      refine E_iconst (pc := 27) O (1 : Int32) dX1_afterFalling_27 (by decide) ?_
      exact E_iret (pc := 28) O Z hf ⟨(Nat.le_of_ble_eq_true rfl), (Nat.le_of_ble_eq_true rfl)⟩ dX1_afterFalling_28
    · refine E_iconst (pc := 18) O (0 : Int32) dX1_afterFalling_18 (by decide) ?_
      exact E_iret (pc := 19) O Z hf ⟨(Nat.le_of_ble_eq_true rfl), (Nat.le_of_ble_eq_true rfl)⟩ dX1_afterFalling_19
  · refine E_iconst (pc := 8) O (4 : Int32) dX1_afterFalling_8 (by decide) ?_
    exact E_iret (pc := 9) O Z hf ⟨(Nat.le_of_ble_eq_true rfl), (Nat.le_of_ble_eq_true rfl)⟩ dX1_afterFalling_9
set_option maxHeartbeats 4000000 in
set_option maxRecDepth 100000 in
theorem t_b_X1_nextState_91 {K : Cx} {fr : Bool} {out : (Int32 × MH)} (O : Ok K yX1_nextState.cls cX1_nextState 2 (rmm 3 67 0 0)) (Z : Out K (some .int) fr (some (.int out.1)) out.2) (h : MH) (s0 : Int32) (hf : b_X1_nextState_91 h s0 = some out) : EE K (fr, 0, 0) 91 [none, none] [.int s0] h := by
  unfold b_X1_nextState_91 at hf
  exact E_iret (pc := 91) O Z hf ⟨(Nat.le_of_ble_eq_true rfl), (Nat.le_of_ble_eq_true rfl)⟩ dX1_nextState_91
set_option maxHeartbeats 4000000 in
set_option maxRecDepth 100000 in
theorem t_b_X1_nextState_90 {K : Cx} {fr : Bool} {out : (Int32 × MH)} (O : Ok K yX1_nextState.cls cX1_nextState 2 (rmm 3 67 0 0)) (Z : Out K (some .int) fr (some (.int out.1)) out.2) (h : MH) (hf : b_X1_nextState_90 h = some out) : EE K (fr, 0, 0) 90 [none, none] [] h := by
  unfold b_X1_nextState_90 at hf
  refine E_iconst (pc := 90) O (5 : Int32) dX1_nextState_90 (by decide) ?_
  exact t_b_X1_nextState_91 O Z h (5 : Int32) hf
set_option maxHeartbeats 4000000 in
set_option maxRecDepth 100000 in
theorem t_X1_nextState {g : Gx} {fr : Bool} {h : MH} {x0 x1} {out : (Int32 × MH)} (hf : f_X1_nextState h x0 x1 = some out) : MM g yX1_nextState cX1_nextState 2 (some .int) 3 67 0 0 fr fr [.ref x0, .int x1] h (some (.int out.1)) out.2 := by
  unfold f_X1_nextState at hf
  refine MM_of (L := [some (.ref x0), some (.int x1)]) (by decide) (Nat.le_of_ble_eq_true rfl) rfl (fun K hK O Z hn => ?_)
  refine E_aload_n (pc := 0) O 0 dX1_nextState_0 rfl rfl ?_
  refine E_getR (pc := 1) O FL_RailSequence_Plant_22 dX1_nextState_1 hf (fun v1 hf => ?_)
  refine E_iload_n (pc := 4) O 1 dX1_nextState_4 rfl rfl ?_
  refine E_iaload (pc := 5) O dX1_nextState_5 hf (fun v2 hf => ?_)
  refine E_ite hf (fun c6 hf => ?_) (fun n6_0 hf => ?_)
  · refine E_tswIn (pc := 6) (off := 34) O 0 40 c6 dX1_nextState_6 (by decide) (by decide) (by decide) (by decide) ?_
    refine E_aload_n (pc := 40) O 0 dX1_nextState_40 rfl rfl ?_
    refine E_iload_n (pc := 41) O 1 dX1_nextState_41 rfl rfl ?_
    refine E_callV_i (pc := 42) (S := []) O [.int x1] CV_RailSequence_Plant_132 rfl (fun r e => t_X1_afterOff e) dX1_nextState_42 hf rfl ⟨(Nat.le_of_ble_eq_true rfl), (Nat.le_of_ble_eq_true rfl)⟩ ⟨(Nat.le_of_ble_eq_true rfl), (Nat.le_of_ble_eq_true rfl)⟩ (Nat.le_of_ble_eq_true rfl) (fun p3 hf => ?_)
    exact E_iret (pc := 45) O Z hf ⟨(Nat.le_of_ble_eq_true rfl), (Nat.le_of_ble_eq_true rfl)⟩ dX1_nextState_45
  · refine E_ite hf (fun c6 hf => ?_) (fun n6_1 hf => ?_)
    · refine E_tswIn (pc := 6) (off := 40) O 1 46 c6 dX1_nextState_6 (by decide) (by decide) (by decide) (by decide) ?_
      refine E_aload_n (pc := 46) O 0 dX1_nextState_46 rfl rfl ?_
      refine E_iload_n (pc := 47) O 1 dX1_nextState_47 rfl rfl ?_
      refine E_callV_i (pc := 48) (S := []) O [.int x1] CV_RailSequence_Plant_135 rfl (fun r e => t_X1_afterWaiting e) dX1_nextState_48 hf rfl ⟨(Nat.le_of_ble_eq_true rfl), (Nat.le_of_ble_eq_true rfl)⟩ ⟨(Nat.le_of_ble_eq_true rfl), (Nat.le_of_ble_eq_true rfl)⟩ (Nat.le_of_ble_eq_true rfl) (fun p4 hf => ?_)
      exact E_iret (pc := 51) O Z hf ⟨(Nat.le_of_ble_eq_true rfl), (Nat.le_of_ble_eq_true rfl)⟩ dX1_nextState_51
    · refine E_ite hf (fun c6 hf => ?_) (fun n6_2 hf => ?_)
      · refine E_tswIn (pc := 6) (off := 46) O 2 52 c6 dX1_nextState_6 (by decide) (by decide) (by decide) (by decide) ?_
        refine E_aload_n (pc := 52) O 0 dX1_nextState_52 rfl rfl ?_
        refine E_iload_n (pc := 53) O 1 dX1_nextState_53 rfl rfl ?_
        refine E_callV_i (pc := 54) (S := []) O [.int x1] CV_RailSequence_Plant_138 rfl (fun r e => t_X1_afterRising e) dX1_nextState_54 hf rfl ⟨(Nat.le_of_ble_eq_true rfl), (Nat.le_of_ble_eq_true rfl)⟩ ⟨(Nat.le_of_ble_eq_true rfl), (Nat.le_of_ble_eq_true rfl)⟩ (Nat.le_of_ble_eq_true rfl) (fun p5 hf => ?_)
        exact E_iret (pc := 57) O Z hf ⟨(Nat.le_of_ble_eq_true rfl), (Nat.le_of_ble_eq_true rfl)⟩ dX1_nextState_57
      · refine E_ite hf (fun c6 hf => ?_) (fun n6_3 hf => ?_)
        · refine E_tswIn (pc := 6) (off := 52) O 3 58 c6 dX1_nextState_6 (by decide) (by decide) (by decide) (by decide) ?_
          refine E_aload_n (pc := 58) O 0 dX1_nextState_58 rfl rfl ?_
          refine E_iload_n (pc := 59) O 1 dX1_nextState_59 rfl rfl ?_
          refine E_callV_i (pc := 60) (S := []) O [.int x1] CV_RailSequence_Plant_141 rfl (fun r e => t_X1_afterGood e) dX1_nextState_60 hf rfl ⟨(Nat.le_of_ble_eq_true rfl), (Nat.le_of_ble_eq_true rfl)⟩ ⟨(Nat.le_of_ble_eq_true rfl), (Nat.le_of_ble_eq_true rfl)⟩ (Nat.le_of_ble_eq_true rfl) (fun p6 hf => ?_)
          exact E_iret (pc := 63) O Z hf ⟨(Nat.le_of_ble_eq_true rfl), (Nat.le_of_ble_eq_true rfl)⟩ dX1_nextState_63
        · refine E_ite hf (fun c6 hf => ?_) (fun n6_4 hf => ?_)
          · refine E_tswIn (pc := 6) (off := 58) O 4 64 c6 dX1_nextState_6 (by decide) (by decide) (by decide) (by decide) ?_
            refine E_aload_n (pc := 64) O 0 dX1_nextState_64 rfl rfl ?_
            refine E_iload_n (pc := 65) O 1 dX1_nextState_65 rfl rfl ?_
            refine E_callV_i (pc := 66) (S := []) O [.int x1] CV_RailSequence_Plant_144 rfl (fun r e => t_X1_afterFalling e) dX1_nextState_66 hf rfl ⟨(Nat.le_of_ble_eq_true rfl), (Nat.le_of_ble_eq_true rfl)⟩ ⟨(Nat.le_of_ble_eq_true rfl), (Nat.le_of_ble_eq_true rfl)⟩ (Nat.le_of_ble_eq_true rfl) (fun p7 hf => ?_)
            exact E_iret (pc := 69) O Z hf ⟨(Nat.le_of_ble_eq_true rfl), (Nat.le_of_ble_eq_true rfl)⟩ dX1_nextState_69
          · refine E_tswOut (pc := 6) O 70 dX1_nextState_6 (by have z := tsw_out 0 5 (by decide) (lt_s (lt_s (lt_s (lt_s (lt_s lt_0 n6_0) n6_1) n6_2) n6_3) n6_4); omega) (by decide) ?_
            refine E_aload_n (pc := 70) O 0 dX1_nextState_70 rfl rfl ?_
            refine E_iload_n (pc := 71) O 1 dX1_nextState_71 rfl rfl ?_
            refine E_callV_iP (pc := 72) (S := []) O [.int x1] CV_RailSequence_Plant_85 rfl (fun r e => t_X1_isWanted e) dX1_nextState_72 hf rfl ⟨(Nat.le_of_ble_eq_true rfl), (Nat.le_of_ble_eq_true rfl)⟩ ⟨(Nat.le_of_ble_eq_true rfl), (Nat.le_of_ble_eq_true rfl)⟩ (Nat.le_of_ble_eq_true rfl) (fun v8 hf => ?_)
            refine E_if_ne (pc := 75) O 90 dX1_nextState_75 (by decide) hf (fun hf => ?_) (fun hf => ?_)
            · exact E_sub (L' := [none, none]) True.intro (t_b_X1_nextState_90 O Z h hf)
            · refine E_aload_n (pc := 78) O 0 dX1_nextState_78 rfl rfl ?_
              refine E_iload_n (pc := 79) O 1 dX1_nextState_79 rfl rfl ?_
              refine E_callV_iP (pc := 80) (S := []) O [.int x1] CV_RailSequence_Plant_105 rfl (fun r e => t_X1_isDischarged e) dX1_nextState_80 hf rfl ⟨(Nat.le_of_ble_eq_true rfl), (Nat.le_of_ble_eq_true rfl)⟩ ⟨(Nat.le_of_ble_eq_true rfl), (Nat.le_of_ble_eq_true rfl)⟩ (Nat.le_of_ble_eq_true rfl) (fun v9 hf => ?_)
              refine E_if_eq (pc := 83) O 90 dX1_nextState_83 (by decide) hf (fun hf => ?_) (fun hf => ?_)
              · exact E_sub (L' := [none, none]) True.intro (t_b_X1_nextState_90 O Z h hf)
              · refine E_iconst (pc := 86) O (0 : Int32) dX1_nextState_86 (by decide) ?_
                refine E_goto (pc := 87) O 91 dX1_nextState_87 (by decide) ?_
                exact E_sub (L' := [none, none]) True.intro (t_b_X1_nextState_91 O Z h (0 : Int32) hf)
set_option maxHeartbeats 4000000 in
set_option maxRecDepth 100000 in
theorem t_b_X1_become_45 {K : Cx} {fr : Bool} {out : MH} (O : Ok K yX1_become.cls cX1_become 3 (rmm 2 84 0 0)) (Z : Out K none fr none out) (h : MH) (x0 : Nat) (x1 : Int32) (x2 : Int32) (hf : b_X1_become_45 h x0 x1 x2 = some out) : EE K (fr, 0, 0) 45 [some (.ref x0), some (.int x1), some (.int x2)] [] h := by
  unfold b_X1_become_45 at hf
  refine E_aload_n (pc := 45) O 0 dX1_become_45 rfl rfl ?_
  refine E_getR (pc := 46) O FL_RailSequence_Plant_49 dX1_become_46 hf (fun v1 hf => ?_)
  refine E_aload_n (pc := 49) O 0 dX1_become_49 rfl rfl ?_
  refine E_getI (pc := 50) O FL_RailSequence_Plant_65 dX1_become_50 hf (fun v2 hf => ?_)
  refine E_iload_n (pc := 53) O 1 dX1_become_53 rfl rfl ?_
  refine E_iload_n (pc := 54) O 2 dX1_become_54 rfl rfl ?_
  refine E_aload_n (pc := 55) O 0 dX1_become_55 rfl rfl ?_
  refine E_getR (pc := 56) O FL_RailSequence_Plant_40 dX1_become_56 hf (fun v3 hf => ?_)
  refine E_iload_n (pc := 59) O 1 dX1_become_59 rfl rfl ?_
  refine E_iaload (pc := 60) O dX1_become_60 hf (fun v4 hf => ?_)
  refine E_callV_v (pc := 61) (S := []) O [.int v2, .int x1, .int x2, .int v4] CV_RailSequence_Plant_156 rfl (fun r e => t_X0_enter e) dX1_become_61 hf rfl ⟨(Nat.le_of_ble_eq_true rfl), (Nat.le_of_ble_eq_true rfl)⟩ ⟨(Nat.le_of_ble_eq_true rfl), (Nat.le_of_ble_eq_true rfl)⟩ (Nat.le_of_ble_eq_true rfl) (fun h5 hf => ?_)
  exact E_vret (pc := 64) O Z hf ⟨(Nat.le_of_ble_eq_true rfl), (Nat.le_of_ble_eq_true rfl)⟩ dX1_become_64
set_option maxHeartbeats 4000000 in
set_option maxRecDepth 100000 in
theorem t_b_X1_become_26 {K : Cx} {fr : Bool} {out : MH} (O : Ok K yX1_become.cls cX1_become 3 (rmm 2 84 0 0)) (Z : Out K none fr none out) (h : MH) (x0 : Nat) (x1 : Int32) (x2 : Int32) (hf : b_X1_become_26 h x0 x1 x2 = some out) : EE K (fr, 0, 0) 26 [some (.ref x0), some (.int x1), some (.int x2)] [] h := by
  unfold b_X1_become_26 at hf
  refine E_iload_n (pc := 26) O 2 dX1_become_26 rfl rfl ?_
  refine E_iconst (pc := 27) O (3 : Int32) dX1_become_27 (by decide) ?_
  refine E_icmp_ne (pc := 28) O 45 dX1_become_28 (by decide) hf (fun hf => ?_) (fun hf => ?_)
  · exact t_b_X1_become_45 O Z h x0 x1 x2 hf
  · refine E_aload_n (pc := 31) O 0 dX1_become_31 rfl rfl ?_
    refine E_getR (pc := 32) O FL_RailSequence_Plant_43 dX1_become_32 hf (fun v6 hf => ?_)
    refine E_iload_n (pc := 35) O 1 dX1_become_35 rfl rfl ?_
    refine E_iconst (pc := 36) O (4 : Int32) dX1_become_36 (by decide) ?_
    refine E_imul (pc := 37) O dX1_become_37 ?_
    refine E_iconst (pc := 38) O (1 : Int32) dX1_become_38 (by decide) ?_
    refine E_iadd (pc := 39) O dX1_become_39 ?_
    refine E_dup2 (pc := 40) O dX1_become_40 rfl rfl ?_
    refine E_iaload (pc := 41) O dX1_become_41 hf (fun v7 hf => ?_)
    refine E_iconst (pc := 42) O (1 : Int32) dX1_become_42 (by decide) ?_
    refine E_iadd (pc := 43) O dX1_become_43 ?_
    refine E_iastore (pc := 44) O dX1_become_44 hf (fun h8 hf => ?_)
    exact t_b_X1_become_45 O Z h8 x0 x1 x2 hf
set_option maxHeartbeats 4000000 in
set_option maxRecDepth 100000 in
theorem t_X1_become {g : Gx} {fr : Bool} {h : MH} {x0 x1 x2} {out : MH} (hf : f_X1_become h x0 x1 x2 = some out) : MM g yX1_become cX1_become 3 none 2 84 0 0 fr fr [.ref x0, .int x1, .int x2] h none out := by
  unfold f_X1_become at hf
  refine MM_of (L := [some (.ref x0), some (.int x1), some (.int x2)]) (by decide) (Nat.le_of_ble_eq_true rfl) rfl (fun K hK O Z hn => ?_)
  refine E_aload_n (pc := 0) O 0 dX1_become_0 rfl rfl ?_
  refine E_getR (pc := 1) O FL_RailSequence_Plant_22 dX1_become_1 hf (fun v9 hf => ?_)
  refine E_iload_n (pc := 4) O 1 dX1_become_4 rfl rfl ?_
  refine E_iload_n (pc := 5) O 2 dX1_become_5 rfl rfl ?_
  refine E_iastore (pc := 6) O dX1_become_6 hf (fun h10 hf => ?_)
  refine E_iload_n (pc := 7) O 2 dX1_become_7 rfl rfl ?_
  refine E_iconst (pc := 8) O (2 : Int32) dX1_become_8 (by decide) ?_
  refine E_icmp_ne (pc := 9) O 26 dX1_become_9 (by decide) hf (fun hf => ?_) (fun hf => ?_)
  · exact t_b_X1_become_26 O Z h10 x0 x1 x2 hf
  · refine E_aload_n (pc := 12) O 0 dX1_become_12 rfl rfl ?_
    refine E_getR (pc := 13) O FL_RailSequence_Plant_43 dX1_become_13 hf (fun v11 hf => ?_)
    refine E_iload_n (pc := 16) O 1 dX1_become_16 rfl rfl ?_
    refine E_iconst (pc := 17) O (4 : Int32) dX1_become_17 (by decide) ?_
    refine E_imul (pc := 18) O dX1_become_18 ?_
    refine E_iconst (pc := 19) O (0 : Int32) dX1_become_19 (by decide) ?_
    refine E_iadd (pc := 20) O dX1_become_20 ?_
    refine E_dup2 (pc := 21) O dX1_become_21 rfl rfl ?_
    refine E_iaload (pc := 22) O dX1_become_22 hf (fun v12 hf => ?_)
    refine E_iconst (pc := 23) O (1 : Int32) dX1_become_23 (by decide) ?_
    refine E_iadd (pc := 24) O dX1_become_24 ?_
    refine E_iastore (pc := 25) O dX1_become_25 hf (fun h13 hf => ?_)
    exact t_b_X1_become_26 O Z h13 x0 x1 x2 hf
set_option maxHeartbeats 4000000 in
set_option maxRecDepth 100000 in
theorem t_b_X1_endTick_53 {K : Cx} {fr : Bool} {out : MH} (O : Ok K yX1_endTick.cls cX1_endTick 2 (rmm 0 0 0 0)) (Z : Out K none fr none out) (rec2 : MH → Nat → Int32 → Option MH) (hr2 : ∀ (h : MH) (x0 : Nat) (x1 : Int32), rec2 h x0 x1 = some out → EE K (fr, 0, 0) 2 [some (.ref x0), some (.int x1)] [] h) (h : MH) (x0 : Nat) (x1 : Int32) (hf : b_X1_endTick_53 rec2 h x0 x1 = some out) : EE K (fr, 0, 0) 53 [some (.ref x0), some (.int x1)] [] h := by
  unfold b_X1_endTick_53 at hf
  refine E_iinc (pc := 53) O (1 : Int32) [some (.ref x0), some (.int (x1 + (1 : Int32)))] dX1_endTick_53 rfl (by decide) rfl (by decide) rfl ?_
  refine E_goto (pc := 56) O 2 dX1_endTick_56 (by decide) ?_
  exact hr2 h x0 (x1 + (1 : Int32)) hf
set_option maxHeartbeats 4000000 in
set_option maxRecDepth 100000 in
theorem t_b_X1_endTick_29 {K : Cx} {fr : Bool} {out : MH} (O : Ok K yX1_endTick.cls cX1_endTick 2 (rmm 0 0 0 0)) (Z : Out K none fr none out) (rec2 : MH → Nat → Int32 → Option MH) (hr2 : ∀ (h : MH) (x0 : Nat) (x1 : Int32), rec2 h x0 x1 = some out → EE K (fr, 0, 0) 2 [some (.ref x0), some (.int x1)] [] h) (h : MH) (x0 : Nat) (x1 : Int32) (hf : b_X1_endTick_29 rec2 h x0 x1 = some out) : EE K (fr, 0, 0) 29 [some (.ref x0), some (.int x1)] [] h := by
  unfold b_X1_endTick_29 at hf
  refine E_aload_n (pc := 29) O 0 dX1_endTick_29 rfl rfl ?_
  refine E_getR (pc := 30) O FL_RailSequence_Plant_22 dX1_endTick_30 hf (fun v1 hf => ?_)
  refine E_iload_n (pc := 33) O 1 dX1_endTick_33 rfl rfl ?_
  refine E_iaload (pc := 34) O dX1_endTick_34 hf (fun v2 hf => ?_)
  refine E_iconst (pc := 35) O (3 : Int32) dX1_endTick_35 (by decide) ?_
  refine E_icmp_ne (pc := 36) O 53 dX1_endTick_36 (by decide) hf (fun hf => ?_) (fun hf => ?_)
  · exact t_b_X1_endTick_53 O Z _ hr2 h x0 x1 hf
  · refine E_aload_n (pc := 39) O 0 dX1_endTick_39 rfl rfl ?_
    refine E_getR (pc := 40) O FL_RailSequence_Plant_43 dX1_endTick_40 hf (fun v3 hf => ?_)
    refine E_iload_n (pc := 43) O 1 dX1_endTick_43 rfl rfl ?_
    refine E_iconst (pc := 44) O (4 : Int32) dX1_endTick_44 (by decide) ?_
    refine E_imul (pc := 45) O dX1_endTick_45 ?_
    refine E_iconst (pc := 46) O (3 : Int32) dX1_endTick_46 (by decide) ?_
    refine E_iadd (pc := 47) O dX1_endTick_47 ?_
    refine E_dup2 (pc := 48) O dX1_endTick_48 rfl rfl ?_
    refine E_iaload (pc := 49) O dX1_endTick_49 hf (fun v4 hf => ?_)
    refine E_iconst (pc := 50) O (1 : Int32) dX1_endTick_50 (by decide) ?_
    refine E_iadd (pc := 51) O dX1_endTick_51 ?_
    refine E_iastore (pc := 52) O dX1_endTick_52 hf (fun h5 hf => ?_)
    exact t_b_X1_endTick_53 O Z _ hr2 h5 x0 x1 hf
set_option maxHeartbeats 4000000 in
set_option maxRecDepth 100000 in
theorem t_b_X1_endTick_2 {K : Cx} {fr : Bool} {out : MH} (O : Ok K yX1_endTick.cls cX1_endTick 2 (rmm 0 0 0 0)) (Z : Out K none fr none out) (rec2 : MH → Nat → Int32 → Option MH) (hr2 : ∀ (h : MH) (x0 : Nat) (x1 : Int32), rec2 h x0 x1 = some out → EE K (fr, 0, 0) 2 [some (.ref x0), some (.int x1)] [] h) (h : MH) (x0 : Nat) (x1 : Int32) (hf : b_X1_endTick_2 rec2 h x0 x1 = some out) : EE K (fr, 0, 0) 2 [some (.ref x0), some (.int x1)] [] h := by
  unfold b_X1_endTick_2 at hf
  refine E_iload_n (pc := 2) O 1 dX1_endTick_2 rfl rfl ?_
  refine E_aload_n (pc := 3) O 0 dX1_endTick_3 rfl rfl ?_
  refine E_getI (pc := 4) O FL_RailSequence_Plant_62 dX1_endTick_4 hf (fun v6 hf => ?_)
  refine E_icmp_ge (pc := 7) O 59 dX1_endTick_7 (by decide) hf (fun hf => ?_) (fun hf => ?_)
  · refine E_aload_n (pc := 59) O 0 dX1_endTick_59 rfl rfl ?_
    refine E_dup (pc := 60) O dX1_endTick_60 rfl ?_
    refine E_getI (pc := 61) O FL_RailSequence_Plant_65 dX1_endTick_61 hf (fun v7 hf => ?_)
    refine E_iconst (pc := 64) O (1 : Int32) dX1_endTick_64 (by decide) ?_
    refine E_iadd (pc := 65) O dX1_endTick_65 ?_
    refine E_put (pc := 66) O FN_RailSequence_Plant_65 rfl rfl dX1_endTick_66 hf (fun h8 hf => ?_)
    exact E_vret (pc := 69) O Z hf ⟨(Nat.le_of_ble_eq_true rfl), (Nat.le_of_ble_eq_true rfl)⟩ dX1_endTick_69
  · refine E_aload_n (pc := 10) O 0 dX1_endTick_10 rfl rfl ?_
    refine E_getR (pc := 11) O FL_RailSequence_Plant_31 dX1_endTick_11 hf (fun v9 hf => ?_)
    refine E_iload_n (pc := 14) O 1 dX1_endTick_14 rfl rfl ?_
    refine E_iaload (pc := 15) O dX1_endTick_15 hf (fun v10 hf => ?_)
    refine E_if_le (pc := 16) O 29 dX1_endTick_16 (by decide) hf (fun hf => ?_) (fun hf => ?_)
    · exact t_b_X1_endTick_29 O Z _ hr2 h x0 x1 hf
    · refine E_aload_n (pc := 19) O 0 dX1_endTick_19 rfl rfl ?_
      refine E_getR (pc := 20) O FL_RailSequence_Plant_31 dX1_endTick_20 hf (fun v11 hf => ?_)
      refine E_iload_n (pc := 23) O 1 dX1_endTick_23 rfl rfl ?_
      refine E_dup2 (pc := 24) O dX1_endTick_24 rfl rfl ?_
      refine E_iaload (pc := 25) O dX1_endTick_25 hf (fun v12 hf => ?_)
      refine E_iconst (pc := 26) O (1 : Int32) dX1_endTick_26 (by decide) ?_
      refine E_isub (pc := 27) O dX1_endTick_27 ?_
      refine E_iastore (pc := 28) O dX1_endTick_28 hf (fun h13 hf => ?_)
      exact t_b_X1_endTick_29 O Z _ hr2 h13 x0 x1 hf
theorem t_f_X1_endTick_2 {K : Cx} {fr : Bool} {out : MH} (O : Ok K yX1_endTick.cls cX1_endTick 2 (rmm 0 0 0 0)) (Z : Out K none fr none out) : ∀ (n : Nat) (h : MH) (x0 : Nat) (x1 : Int32), f_X1_endTick_2 n h x0 x1 = some out → EE K (fr, 0, 0) 2 [some (.ref x0), some (.int x1)] [] h := by
  intro n
  induction n with
  | zero => intro h x0 x1 hf; cases hf
  | succ n ih => intro h x0 x1 hf; exact t_b_X1_endTick_2 O Z _ ih h x0 x1 hf
set_option maxHeartbeats 4000000 in
set_option maxRecDepth 100000 in
theorem t_X1_endTick {g : Gx} {fr : Bool} {h : MH} {x0} {out : MH} (hf : f_X1_endTick h x0 = some out) : MM g yX1_endTick cX1_endTick 2 none 0 0 0 0 fr fr [.ref x0] h none out := by
  unfold f_X1_endTick at hf
  refine MM_of (L := [some (.ref x0), none]) (by decide) (Nat.le_of_ble_eq_true rfl) rfl (fun K hK O Z hn => ?_)
  refine E_iconst (pc := 0) O (0 : Int32) dX1_endTick_0 (by decide) ?_
  refine E_istore_n (pc := 1) O 1 [some (.ref x0), some (.int (0 : Int32))] dX1_endTick_1 rfl (by decide) rfl rfl ?_
  exact t_f_X1_endTick_2 O Z FU h x0 (0 : Int32) hf
