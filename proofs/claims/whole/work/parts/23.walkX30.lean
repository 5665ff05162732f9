/-! walks: the machine does what the plain functions say: written by program -/
set_option maxHeartbeats 4000000 in
set_option maxRecDepth 100000 in
theorem t_X3_init {g : Gx} {h : MH} {x0} {out : MH} (hf : f_X3_init h x0 = some out) : MM g yX3_init cX3_init 2 none 3 100 132 2153 true true [.ref x0] h none out := by
  unfold f_X3_init at hf
  refine MM_of (L := [some (.ref x0), none]) (by decide) (Nat.le_of_ble_eq_true rfl) rfl (fun K hK O Z hn => ?_)
  refine E_aload_n (pc := 0) O 0 dX3_init_0 rfl rfl ?_
  refine E_objInit (pc := 1) O (aw1 20 (by decide +kernel) rfl) (aw1 21 (by decide +kernel) rfl) (aw1 22 (by decide +kernel) rfl) (Nat.le_of_ble_eq_true rfl) (Nat.le_of_ble_eq_true rfl) dX3_init_1 ?_
  refine E_aload_n (pc := 4) O 0 dX3_init_4 rfl rfl ?_
  refine E_new (pc := 5) O NW_RailSequence_7 dX3_init_5 hf ⟨(Nat.le_of_ble_eq_true rfl), (Nat.le_of_ble_eq_true rfl)⟩ (fun h1 hf => ?_)
  show EE K (true, 1, 18) _ _ _ _
  refine E_dup (pc := 8) O dX3_init_8 rfl ?_
  refine E_callIN (pc := 9) O CN_RailSequence_9 (fun r e => t_X1_init e) dX3_init_9 hf ⟨(Nat.le_of_ble_eq_true rfl), (Nat.le_of_ble_eq_true rfl)⟩ ⟨(Nat.le_of_ble_eq_true rfl), (Nat.le_of_ble_eq_true rfl)⟩ (Nat.le_of_ble_eq_true rfl) (fun h2 hf => ?_)
  show EE K (true, 16, 260) _ _ _ _
  refine E_putF (pc := 12) O FF_RailSequence_10 hn rfl rfl dX3_init_12 hf (fun h3 hf => ?_)
  refine E_aload_n (pc := 15) O 0 dX3_init_15 rfl rfl ?_
  refine E_new (pc := 16) O NW_RailSequence_7 dX3_init_16 hf ⟨(Nat.le_of_ble_eq_true rfl), (Nat.le_of_ble_eq_true rfl)⟩ (fun h4 hf => ?_)
  show EE K (true, 17, 278) _ _ _ _
  refine E_dup (pc := 19) O dX3_init_19 rfl ?_
  refine E_callIN (pc := 20) O CN_RailSequence_9 (fun r e => t_X1_init e) dX3_init_20 hf ⟨(Nat.le_of_ble_eq_true rfl), (Nat.le_of_ble_eq_true rfl)⟩ ⟨(Nat.le_of_ble_eq_true rfl), (Nat.le_of_ble_eq_true rfl)⟩ (Nat.le_of_ble_eq_true rfl) (fun h5 hf => ?_)
  show EE K (true, 32, 520) _ _ _ _
  refine E_putF (pc := 23) O FF_RailSequence_16 hn rfl rfl dX3_init_23 hf (fun h6 hf => ?_)
  refine E_aload_n (pc := 26) O 0 dX3_init_26 rfl rfl ?_
  refine E_bipush (pc := 27) O (6 : Int32) dX3_init_27 (by decide) ?_
  refine E_newaR (pc := 29) O (aw1 23 (by decide +kernel) rfl) dX3_init_29 (by decide) (by decide) (Nat.le_of_ble_eq_true rfl) hf ⟨(Nat.le_of_ble_eq_true rfl), (Nat.le_of_ble_eq_true rfl)⟩ (fun h7 hf => ?_)
  show EE K (true, 33, 526) _ _ _ _
  refine E_putF (pc := 32) O FF_RailSequence_19 hn rfl rfl dX3_init_32 hf (fun h8 hf => ?_)
  refine E_aload_n (pc := 35) O 0 dX3_init_35 rfl rfl ?_
  refine E_bipush (pc := 36) O (60 : Int32) dX3_init_36 (by decide) ?_
  refine E_newaI (pc := 38) O (aw1 43 (by decide +kernel) rfl) dX3_init_38 (by decide) (by decide) (Nat.le_of_ble_eq_true rfl) hf ⟨(Nat.le_of_ble_eq_true rfl), (Nat.le_of_ble_eq_true rfl)⟩ (fun h9 hf => ?_)
  show EE K (true, 34, 586) _ _ _ _
  refine E_putF (pc := 40) O FF_RailSequence_23 hn rfl rfl dX3_init_40 hf (fun h10 hf => ?_)
  refine E_aload_n (pc := 43) O 0 dX3_init_43 rfl rfl ?_
  refine E_new (pc := 44) O NW_RailSequence_27 dX3_init_44 hf ⟨(Nat.le_of_ble_eq_true rfl), (Nat.le_of_ble_eq_true rfl)⟩ (fun h11 hf => ?_)
  show EE K (true, 35, 590) _ _ _ _
  refine E_dup (pc := 47) O dX3_init_47 rfl ?_
  refine E_callIN (pc := 48) O CN_RailSequence_29 (fun r e => t_X2_init e) dX3_init_48 hf ⟨(Nat.le_of_ble_eq_true rfl), (Nat.le_of_ble_eq_true rfl)⟩ ⟨(Nat.le_of_ble_eq_true rfl), (Nat.le_of_ble_eq_true rfl)⟩ (Nat.le_of_ble_eq_true rfl) (fun h12 hf => ?_)
  show EE K (true, 36, 593) _ _ _ _
  refine E_putF (pc := 51) O FF_RailSequence_30 hn rfl rfl dX3_init_51 hf (fun h13 hf => ?_)
  refine E_iconst (pc := 54) O (0 : Int32) dX3_init_54 (by decide) ?_
  refine E_istore_n (pc := 55) O 1 [some (.ref x0), some (.int (0 : Int32))] dX3_init_55 rfl (by decide) rfl rfl ?_
  refine E_iload_n (pc := 56) O 1 dX3_init_56 rfl rfl ?_
  refine E_bipush (pc := 57) O (6 : Int32) dX3_init_57 (by decide) ?_
  refine E_icmp_geF (pc := 59) O 81 dX3_init_59 (by decide) (by decide) ?_
  refine E_aload_n (pc := 62) O 0 dX3_init_62 rfl rfl ?_
  refine E_getR (pc := 63) O FL_RailSequence_19 dX3_init_63 hf (fun v14 hf => ?_)
  refine E_iload_n (pc := 66) O 1 dX3_init_66 rfl rfl ?_
  refine E_new (pc := 67) O NW_RailSequence_7 dX3_init_67 hf ⟨(Nat.le_of_ble_eq_true rfl), (Nat.le_of_ble_eq_true rfl)⟩ (fun h15 hf => ?_)
  show EE K (true, 37, 611) _ _ _ _
  refine E_dup (pc := 70) O dX3_init_70 rfl ?_
  refine E_callIN (pc := 71) O CN_RailSequence_9 (fun r e => t_X1_init e) dX3_init_71 hf ⟨(Nat.le_of_ble_eq_true rfl), (Nat.le_of_ble_eq_true rfl)⟩ ⟨(Nat.le_of_ble_eq_true rfl), (Nat.le_of_ble_eq_true rfl)⟩ (Nat.le_of_ble_eq_true rfl) (fun h16 hf => ?_)
  show EE K (true, 52, 853) _ _ _ _
  refine E_aastore (pc := 74) O dX3_init_74 hf (fun h17 hf => ?_)
  refine E_iinc (pc := 75) O (1 : Int32) [some (.ref x0), some (.int (1 : Int32))] dX3_init_75 rfl (by decide) rfl (by decide) (by rw [show (0 : Int32) + 1 = 1 from by decide]; rfl) ?_
  refine E_goto (pc := 78) O 56 dX3_init_78 (by decide) ?_
  refine E_iload_n (pc := 56) O 1 dX3_init_56 rfl rfl ?_
  refine E_bipush (pc := 57) O (6 : Int32) dX3_init_57 (by decide) ?_
  refine E_icmp_geF (pc := 59) O 81 dX3_init_59 (by decide) (by decide) ?_
  refine E_aload_n (pc := 62) O 0 dX3_init_62 rfl rfl ?_
  refine E_getR (pc := 63) O FL_RailSequence_19 dX3_init_63 hf (fun v18 hf => ?_)
  refine E_iload_n (pc := 66) O 1 dX3_init_66 rfl rfl ?_
  refine E_new (pc := 67) O NW_RailSequence_7 dX3_init_67 hf ⟨(Nat.le_of_ble_eq_true rfl), (Nat.le_of_ble_eq_true rfl)⟩ (fun h19 hf => ?_)
  show EE K (true, 53, 871) _ _ _ _
  refine E_dup (pc := 70) O dX3_init_70 rfl ?_
  refine E_callIN (pc := 71) O CN_RailSequence_9 (fun r e => t_X1_init e) dX3_init_71 hf ⟨(Nat.le_of_ble_eq_true rfl), (Nat.le_of_ble_eq_true rfl)⟩ ⟨(Nat.le_of_ble_eq_true rfl), (Nat.le_of_ble_eq_true rfl)⟩ (Nat.le_of_ble_eq_true rfl) (fun h20 hf => ?_)
  show EE K (true, 68, 1113) _ _ _ _
  refine E_aastore (pc := 74) O dX3_init_74 hf (fun h21 hf => ?_)
  refine E_iinc (pc := 75) O (1 : Int32) [some (.ref x0), some (.int (2 : Int32))] dX3_init_75 rfl (by decide) rfl (by decide) (by rw [show (1 : Int32) + 1 = 2 from by decide]; rfl) ?_
  refine E_goto (pc := 78) O 56 dX3_init_78 (by decide) ?_
  refine E_iload_n (pc := 56) O 1 dX3_init_56 rfl rfl ?_
  refine E_bipush (pc := 57) O (6 : Int32) dX3_init_57 (by decide) ?_
  refine E_icmp_geF (pc := 59) O 81 dX3_init_59 (by decide) (by decide) ?_
  refine E_aload_n (pc := 62) O 0 dX3_init_62 rfl rfl ?_
  refine E_getR (pc := 63) O FL_RailSequence_19 dX3_init_63 hf (fun v22 hf => ?_)
  refine E_iload_n (pc := 66) O 1 dX3_init_66 rfl rfl ?_
  refine E_new (pc := 67) O NW_RailSequence_7 dX3_init_67 hf ⟨(Nat.le_of_ble_eq_true rfl), (Nat.le_of_ble_eq_true rfl)⟩ (fun h23 hf => ?_)
  show EE K (true, 69, 1131) _ _ _ _
  refine E_dup (pc := 70) O dX3_init_70 rfl ?_
  refine E_callIN (pc := 71) O CN_RailSequence_9 (fun r e => t_X1_init e) dX3_init_71 hf ⟨(Nat.le_of_ble_eq_true rfl), (Nat.le_of_ble_eq_true rfl)⟩ ⟨(Nat.le_of_ble_eq_true rfl), (Nat.le_of_ble_eq_true rfl)⟩ (Nat.le_of_ble_eq_true rfl) (fun h24 hf => ?_)
  show EE K (true, 84, 1373) _ _ _ _
  refine E_aastore (pc := 74) O dX3_init_74 hf (fun h25 hf => ?_)
  refine E_iinc (pc := 75) O (1 : Int32) [some (.ref x0), some (.int (3 : Int32))] dX3_init_75 rfl (by decide) rfl (by decide) (by rw [show (2 : Int32) + 1 = 3 from by decide]; rfl) ?_
  refine E_goto (pc := 78) O 56 dX3_init_78 (by decide) ?_
  refine E_iload_n (pc := 56) O 1 dX3_init_56 rfl rfl ?_
  refine E_bipush (pc := 57) O (6 : Int32) dX3_init_57 (by decide) ?_
  refine E_icmp_geF (pc := 59) O 81 dX3_init_59 (by decide) (by decide) ?_
  refine E_aload_n (pc := 62) O 0 dX3_init_62 rfl rfl ?_
  refine E_getR (pc := 63) O FL_RailSequence_19 dX3_init_63 hf (fun v26 hf => ?_)
  refine E_iload_n (pc := 66) O 1 dX3_init_66 rfl rfl ?_
  refine E_new (pc := 67) O NW_RailSequence_7 dX3_init_67 hf ⟨(Nat.le_of_ble_eq_true rfl), (Nat.le_of_ble_eq_true rfl)⟩ (fun h27 hf => ?_)
  show EE K (true, 85, 1391) _ _ _ _
  refine E_dup (pc := 70) O dX3_init_70 rfl ?_
  refine E_callIN (pc := 71) O CN_RailSequence_9 (fun r e => t_X1_init e) dX3_init_71 hf ⟨(Nat.le_of_ble_eq_true rfl), (Nat.le_of_ble_eq_true rfl)⟩ ⟨(Nat.le_of_ble_eq_true rfl), (Nat.le_of_ble_eq_true rfl)⟩ (Nat.le_of_ble_eq_true rfl) (fun h28 hf => ?_)
  show EE K (true, 100, 1633) _ _ _ _
  refine E_aastore (pc := 74) O dX3_init_74 hf (fun h29 hf => ?_)
  refine E_iinc (pc := 75) O (1 : Int32) [some (.ref x0), some (.int (4 : Int32))] dX3_init_75 rfl (by decide) rfl (by decide) (by rw [show (3 : Int32) + 1 = 4 from by decide]; rfl) ?_
  refine E_goto (pc := 78) O 56 dX3_init_78 (by decide) ?_
  refine E_iload_n (pc := 56) O 1 dX3_init_56 rfl rfl ?_
  refine E_bipush (pc := 57) O (6 : Int32) dX3_init_57 (by decide) ?_
  refine E_icmp_geF (pc := 59) O 81 dX3_init_59 (by decide) (by decide) ?_
  refine E_aload_n (pc := 62) O 0 dX3_init_62 rfl rfl ?_
  refine E_getR (pc := 63) O FL_RailSequence_19 dX3_init_63 hf (fun v30 hf => ?_)
  refine E_iload_n (pc := 66) O 1 dX3_init_66 rfl rfl ?_
  refine E_new (pc := 67) O NW_RailSequence_7 dX3_init_67 hf ⟨(Nat.le_of_ble_eq_true rfl), (Nat.le_of_ble_eq_true rfl)⟩ (fun h31 hf => ?_)
  show EE K (true, 101, 1651) _ _ _ _
  refine E_dup (pc := 70) O dX3_init_70 rfl ?_
  refine E_callIN (pc := 71) O CN_RailSequence_9 (fun r e => t_X1_init e) dX3_init_71 hf ⟨(Nat.le_of_ble_eq_true rfl), (Nat.le_of_ble_eq_true rfl)⟩ ⟨(Nat.le_of_ble_eq_true rfl), (Nat.le_of_ble_eq_true rfl)⟩ (Nat.le_of_ble_eq_true rfl) (fun h32 hf => ?_)
  show EE K (true, 116, 1893) _ _ _ _
  refine E_aastore (pc := 74) O dX3_init_74 hf (fun h33 hf => ?_)
  refine E_iinc (pc := 75) O (1 : Int32) [some (.ref x0), some (.int (5 : Int32))] dX3_init_75 rfl (by decide) rfl (by decide) (by rw [show (4 : Int32) + 1 = 5 from by decide]; rfl) ?_
  refine E_goto (pc := 78) O 56 dX3_init_78 (by decide) ?_
  refine E_iload_n (pc := 56) O 1 dX3_init_56 rfl rfl ?_
  refine E_bipush (pc := 57) O (6 : Int32) dX3_init_57 (by decide) ?_
  refine E_icmp_geF (pc := 59) O 81 dX3_init_59 (by decide) (by decide) ?_
  refine E_aload_n (pc := 62) O 0 dX3_init_62 rfl rfl ?_
  refine E_getR (pc := 63) O FL_RailSequence_19 dX3_init_63 hf (fun v34 hf => ?_)
  refine E_iload_n (pc := 66) O 1 dX3_init_66 rfl rfl ?_
  refine E_new (pc := 67) O NW_RailSequence_7 dX3_init_67 hf ⟨(Nat.le_of_ble_eq_true rfl), (Nat.le_of_ble_eq_true rfl)⟩ (fun h35 hf => ?_)
  show EE K (true, 117, 1911) _ _ _ _
  refine E_dup (pc := 70) O dX3_init_70 rfl ?_
  refine E_callIN (pc := 71) O CN_RailSequence_9 (fun r e => t_X1_init e) dX3_init_71 hf ⟨(Nat.le_of_ble_eq_true rfl), (Nat.le_of_ble_eq_true rfl)⟩ ⟨(Nat.le_of_ble_eq_true rfl), (Nat.le_of_ble_eq_true rfl)⟩ (Nat.le_of_ble_eq_true rfl) (fun h36 hf => ?_)
  show EE K (true, 132, 2153) _ _ _ _
  refine E_aastore (pc := 74) O dX3_init_74 hf (fun h37 hf => ?_)
  refine E_iinc (pc := 75) O (1 : Int32) [some (.ref x0), some (.int (6 : Int32))] dX3_init_75 rfl (by decide) rfl (by decide) (by rw [show (5 : Int32) + 1 = 6 from by decide]; rfl) ?_
  refine E_goto (pc := 78) O 56 dX3_init_78 (by decide) ?_
  refine E_iload_n (pc := 56) O 1 dX3_init_56 rfl rfl ?_
  refine E_bipush (pc := 57) O (6 : Int32) dX3_init_57 (by decide) ?_
  refine E_icmp_geT (pc := 59) O 81 dX3_init_59 (by decide) (by decide) ?_
  exact E_vret (pc := 81) O Z hf ⟨(Nat.le_of_ble_eq_true rfl), (Nat.le_of_ble_eq_true rfl)⟩ dX3_init_81
set_option maxHeartbeats 4000000 in
set_option maxRecDepth 100000 in
theorem t_b_X3_isInRange_23 {K : Cx} {fr : Bool} {out : Int32} {h : MH} (O : Ok K yX3_isInRange.cls cX3_isInRange 2 (rmm 0 0 0 0)) (Z : Out K (some .boolean) fr (some (.int out)) h) (s0 : Int32) (hf : b_X3_isInRange_23 h s0 = some out) : EE K (fr, 0, 0) 23 [none, none] [.int s0] h := by
  unfold b_X3_isInRange_23 at hf
  exact E_zretP (pc := 23) O Z hf ⟨(Nat.le_of_ble_eq_true rfl), (Nat.le_of_ble_eq_true rfl)⟩ dX3_isInRange_23
set_option maxHeartbeats 4000000 in
set_option maxRecDepth 100000 in
theorem t_b_X3_isInRange_22 {K : Cx} {fr : Bool} {out : Int32} {h : MH} (O : Ok K yX3_isInRange.cls cX3_isInRange 2 (rmm 0 0 0 0)) (Z : Out K (some .boolean) fr (some (.int out)) h)  (hf : b_X3_isInRange_22 h  = some out) : EE K (fr, 0, 0) 22 [none, none] [] h := by
  unfold b_X3_isInRange_22 at hf
  refine E_iconst (pc := 22) O (0 : Int32) dX3_isInRange_22 (by decide) ?_
  exact t_b_X3_isInRange_23 O Z (0 : Int32) hf
set_option maxHeartbeats 4000000 in
set_option maxRecDepth 100000 in
theorem t_X3_isInRange {g : Gx} {fr : Bool} {h : MH} {x0 x1} {out : Int32} (hf : f_X3_isInRange h x0 x1 = some out) : MM g yX3_isInRange cX3_isInRange 2 (some .boolean) 0 0 0 0 fr fr [.int x0, .int x1] h (some (.int out)) h := by
  unfold f_X3_isInRange at hf
  refine MM_of (L := [some (.int x0), some (.int x1)]) (by decide) (Nat.le_of_ble_eq_true rfl) rfl (fun K hK O Z hn => ?_)
  refine E_iload_n (pc := 0) O 1 dX3_isInRange_0 rfl rfl ?_
  refine E_getsLEAST (pc := 1) O (aw2 151 (by decide +kernel) rfl) dX3_isInRange_1 ?_
  refine E_iload_n (pc := 4) O 0 dX3_isInRange_4 rfl rfl ?_
  refine E_ialoadRO (pc := 5) (i := 1) O (by decide) rfl dX3_isInRange_5 hf (fun v1 hf => ?_)
  refine E_icmp_lt (pc := 6) O 22 dX3_isInRange_6 (by decide) hf (fun hf => ?_) (fun hf => ?_)
  · exact E_sub (L' := [none, none]) True.intro (t_b_X3_isInRange_22 O Z  hf)
  · refine E_iload_n (pc := 9) O 1 dX3_isInRange_9 rfl rfl ?_
    refine E_getsMOST (pc := 10) O (aw2 152 (by decide +kernel) rfl) dX3_isInRange_10 ?_
    refine E_iload_n (pc := 13) O 0 dX3_isInRange_13 rfl rfl ?_
    refine E_ialoadRO (pc := 14) (i := 2) O (by decide) rfl dX3_isInRange_14 hf (fun v2 hf => ?_)
    refine E_icmp_gt (pc := 15) O 22 dX3_isInRange_15 (by decide) hf (fun hf => ?_) (fun hf => ?_)
    · exact E_sub (L' := [none, none]) True.intro (t_b_X3_isInRange_22 O Z  hf)
    · refine E_iconst (pc := 18) O (1 : Int32) dX3_isInRange_18 (by decide) ?_
      refine E_goto (pc := 19) O 23 dX3_isInRange_19 (by decide) ?_
      exact E_sub (L' := [none, none]) True.intro (t_b_X3_isInRange_23 O Z (1 : Int32) hf)
set_option maxHeartbeats 4000000 in
set_option maxRecDepth 100000 in
theorem t_b_X3_areBelow_17 {K : Cx} {fr : Bool} {out : Int32} {h : MH} (O : Ok K yX3_areBelow.cls cX3_areBelow 2 (rmm 0 0 0 0)) (Z : Out K (some .boolean) fr (some (.int out)) h) (s0 : Int32) (hf : b_X3_areBelow_17 h s0 = some out) : EE K (fr, 0, 0) 17 [none, none] [.int s0] h := by
  unfold b_X3_areBelow_17 at hf
  exact E_zretP (pc := 17) O Z hf ⟨(Nat.le_of_ble_eq_true rfl), (Nat.le_of_ble_eq_true rfl)⟩ dX3_areBelow_17
set_option maxHeartbeats 4000000 in
set_option maxRecDepth 100000 in
theorem t_X3_areBelow {g : Gx} {fr : Bool} {h : MH} {x0 x1} {out : Int32} (hf : f_X3_areBelow h x0 x1 = some out) : MM g yX3_areBelow cX3_areBelow 2 (some .boolean) 0 0 0 0 fr fr [.int x0, .int x1] h (some (.int out)) h := by
  unfold f_X3_areBelow at hf
  refine MM_of (L := [some (.int x0), some (.int x1)]) (by decide) (Nat.le_of_ble_eq_true rfl) rfl (fun K hK O Z hn => ?_)
  refine E_iload_n (pc := 0) O 1 dX3_areBelow_0 rfl rfl ?_
  refine E_iconst (pc := 1) O (1 : Int32) dX3_areBelow_1 (by decide) ?_
  refine E_iload_n (pc := 2) O 0 dX3_areBelow_2 rfl rfl ?_
  refine E_ishl (pc := 3) O dX3_areBelow_3 ?_
  refine E_iconst (pc := 4) O (1 : Int32) dX3_areBelow_4 (by decide) ?_
  refine E_isub (pc := 5) O dX3_areBelow_5 ?_
  refine E_iconst (pc := 6) O (-1 : Int32) dX3_areBelow_6 (by decide) ?_
  refine E_ixor (pc := 7) O dX3_areBelow_7 ?_
  refine E_iand (pc := 8) O dX3_areBelow_8 ?_
  refine E_if_ne (pc := 9) O 16 dX3_areBelow_9 (by decide) hf (fun hf => ?_) (fun hf => ?_)
  · refine E_iconst (pc := 16) O (0 : Int32) dX3_areBelow_16 (by decide) ?_
    exact E_sub (L' := [none, none]) True.intro (t_b_X3_areBelow_17 O Z (0 : Int32) hf)
  · refine E_iconst (pc := 12) O (1 : Int32) dX3_areBelow_12 (by decide) ?_
    refine E_goto (pc := 13) O 17 dX3_areBelow_13 (by decide) ?_
    exact E_sub (L' := [none, none]) True.intro (t_b_X3_areBelow_17 O Z (1 : Int32) hf)
set_option maxHeartbeats 4000000 in
set_option maxRecDepth 100000 in
theorem t_X3_areRails {g : Gx} {fr : Bool} {h : MH} {x0 x1} {out : Int32} (hf : f_X3_areRails h x0 x1 = some out) : MM g yX3_areRails cX3_areRails 2 (some .boolean) 1 21 0 0 fr fr [.ref x0, .int x1] h (some (.int out)) h := by
  unfold f_X3_areRails at hf
  refine MM_of (L := [some (.ref x0), some (.int x1)]) (by decide) (Nat.le_of_ble_eq_true rfl) rfl (fun K hK O Z hn => ?_)
  refine E_aload_n (pc := 0) O 0 dX3_areRails_0 rfl rfl ?_
  refine E_getR (pc := 1) O FL_RailSequence_10 dX3_areRails_1 hf (fun v1 hf => ?_)
  refine E_getI (pc := 4) O FL_RailSequence_51 dX3_areRails_4 hf (fun v2 hf => ?_)
  refine E_iload_n (pc := 7) O 1 dX3_areRails_7 rfl rfl ?_
  refine E_callS_iP (pc := 8) (S := []) O [.int v2, .int x1] CS_RailSequence_86 (fun r e => t_X3_areBelow e) dX3_areRails_8 hf rfl ⟨(Nat.le_of_ble_eq_true rfl), (Nat.le_of_ble_eq_true rfl)⟩ ⟨(Nat.le_of_ble_eq_true rfl), (Nat.le_of_ble_eq_true rfl)⟩ (Nat.le_of_ble_eq_true rfl) (fun v3 hf => ?_)
  exact E_zretP (pc := 11) O Z hf ⟨(Nat.le_of_ble_eq_true rfl), (Nat.le_of_ble_eq_true rfl)⟩ dX3_areRails_11
set_option maxHeartbeats 4000000 in
set_option maxRecDepth 100000 in
theorem t_b_X3_dropOldestSaved_9 {K : Cx} {fr : Bool} {out : MH} (O : Ok K yX3_dropOldestSaved.cls cX3_dropOldestSaved 3 (rmm 0 0 0 0)) (Z : Out K none fr none out) (rec9 : MH → Nat → Nat → Int32 → Option MH) (hr9 : ∀ (h : MH) (x0 : Nat) (x1 : Nat) (x2 : Int32), rec9 h x0 x1 x2 = some out → EE K (fr, 0, 0) 9 [some (.ref x0), some (.ref x1), some (.int x2)] [] h) (h : MH) (x0 : Nat) (x1 : Nat) (x2 : Int32) (hf : b_X3_dropOldestSaved_9 rec9 h x0 x1 x2 = some out) : EE K (fr, 0, 0) 9 [some (.ref x0), some (.ref x1), some (.int x2)] [] h := by
  unfold b_X3_dropOldestSaved_9 at hf
  refine E_iload_n (pc := 9) O 2 dX3_dropOldestSaved_9 rfl rfl ?_
  refine E_bipush (pc := 10) O (6 : Int32) dX3_dropOldestSaved_10 (by decide) ?_
  refine E_icmp_ge (pc := 12) O 35 dX3_dropOldestSaved_12 (by decide) hf (fun hf => ?_) (fun hf => ?_)
  · refine E_aload_n (pc := 35) O 0 dX3_dropOldestSaved_35 rfl rfl ?_
    refine E_getR (pc := 36) O FL_RailSequence_19 dX3_dropOldestSaved_36 hf (fun v1 hf => ?_)
    refine E_iconst (pc := 39) O (5 : Int32) dX3_dropOldestSaved_39 (by decide) ?_
    refine E_aload_n (pc := 40) O 1 dX3_dropOldestSaved_40 rfl rfl ?_
    refine E_aastore (pc := 41) O dX3_dropOldestSaved_41 hf (fun h2 hf => ?_)
    refine E_aload_n (pc := 42) O 0 dX3_dropOldestSaved_42 rfl rfl ?_
    refine E_iconst (pc := 43) O (5 : Int32) dX3_dropOldestSaved_43 (by decide) ?_
    refine E_put (pc := 44) O FN_RailSequence_168 rfl rfl dX3_dropOldestSaved_44 hf (fun h3 hf => ?_)
    exact E_vret (pc := 47) O Z hf ⟨(Nat.le_of_ble_eq_true rfl), (Nat.le_of_ble_eq_true rfl)⟩ dX3_dropOldestSaved_47
  · refine E_aload_n (pc := 15) O 0 dX3_dropOldestSaved_15 rfl rfl ?_
    refine E_getR (pc := 16) O FL_RailSequence_19 dX3_dropOldestSaved_16 hf (fun v4 hf => ?_)
    refine E_iload_n (pc := 19) O 2 dX3_dropOldestSaved_19 rfl rfl ?_
    refine E_iconst (pc := 20) O (1 : Int32) dX3_dropOldestSaved_20 (by decide) ?_
    refine E_isub (pc := 21) O dX3_dropOldestSaved_21 ?_
    refine E_aload_n (pc := 22) O 0 dX3_dropOldestSaved_22 rfl rfl ?_
    refine E_getR (pc := 23) O FL_RailSequence_19 dX3_dropOldestSaved_23 hf (fun v5 hf => ?_)
    refine E_iload_n (pc := 26) O 2 dX3_dropOldestSaved_26 rfl rfl ?_
    refine E_aaload (pc := 27) O dX3_dropOldestSaved_27 hf (fun v6 hf => ?_)
    refine E_aastore (pc := 28) O dX3_dropOldestSaved_28 hf (fun h7 hf => ?_)
    refine E_iinc (pc := 29) O (1 : Int32) [some (.ref x0), some (.ref x1), some (.int (x2 + (1 : Int32)))] dX3_dropOldestSaved_29 rfl (by decide) rfl (by decide) rfl ?_
    refine E_goto (pc := 32) O 9 dX3_dropOldestSaved_32 (by decide) ?_
    exact hr9 h7 x0 x1 (x2 + (1 : Int32)) hf
theorem t_f_X3_dropOldestSaved_9 {K : Cx} {fr : Bool} {out : MH} (O : Ok K yX3_dropOldestSaved.cls cX3_dropOldestSaved 3 (rmm 0 0 0 0)) (Z : Out K none fr none out) : ∀ (n : Nat) (h : MH) (x0 : Nat) (x1 : Nat) (x2 : Int32), f_X3_dropOldestSaved_9 n h x0 x1 x2 = some out → EE K (fr, 0, 0) 9 [some (.ref x0), some (.ref x1), some (.int x2)] [] h := by
  intro n
  induction n with
  | zero => intro h x0 x1 x2 hf; cases hf
  | succ n ih => intro h x0 x1 x2 hf; exact t_b_X3_dropOldestSaved_9 O Z _ ih h x0 x1 x2 hf
set_option maxHeartbeats 4000000 in
set_option maxRecDepth 100000 in
theorem t_X3_dropOldestSaved {g : Gx} {fr : Bool} {h : MH} {x0} {out : MH} (hf : f_X3_dropOldestSaved h x0 = some out) : MM g yX3_dropOldestSaved cX3_dropOldestSaved 3 none 0 0 0 0 fr fr [.ref x0] h none out := by
  unfold f_X3_dropOldestSaved at hf
  refine MM_of (L := [some (.ref x0), none, none]) (by decide) (Nat.le_of_ble_eq_true rfl) rfl (fun K hK O Z hn => ?_)
  refine E_aload_n (pc := 0) O 0 dX3_dropOldestSaved_0 rfl rfl ?_
  refine E_getR (pc := 1) O FL_RailSequence_19 dX3_dropOldestSaved_1 hf (fun v8 hf => ?_)
  refine E_iconst (pc := 4) O (0 : Int32) dX3_dropOldestSaved_4 (by decide) ?_
  refine E_aaload (pc := 5) O dX3_dropOldestSaved_5 hf (fun v9 hf => ?_)
  refine E_astore_n (pc := 6) O 1 [some (.ref x0), some (.ref v9), none] dX3_dropOldestSaved_6 rfl (by decide) rfl rfl ?_
  refine E_iconst (pc := 7) O (1 : Int32) dX3_dropOldestSaved_7 (by decide) ?_
  refine E_istore_n (pc := 8) O 2 [some (.ref x0), some (.ref v9), some (.int (1 : Int32))] dX3_dropOldestSaved_8 rfl (by decide) rfl rfl ?_
  exact t_f_X3_dropOldestSaved_9 O Z FU h x0 v9 (1 : Int32) hf
set_option maxHeartbeats 4000000 in
set_option maxRecDepth 100000 in
theorem t_b_X3_save_13 {K : Cx} {fr : Bool} {out : MH} (O : Ok K yX3_save.cls cX3_save 1 (rmm 3 102 0 0)) (Z : Out K none fr none out) (h : MH) (x0 : Nat) (hf : b_X3_save_13 h x0 = some out) : EE K (fr, 0, 0) 13 [some (.ref x0)] [] h := by
  unfold b_X3_save_13 at hf
  refine E_aload_n (pc := 13) O 0 dX3_save_13 rfl rfl ?_
  refine E_getR (pc := 14) O FL_RailSequence_19 dX3_save_14 hf (fun v1 hf => ?_)
  refine E_aload_n (pc := 17) O 0 dX3_save_17 rfl rfl ?_
  refine E_getI (pc := 18) O FL_RailSequence_168 dX3_save_18 hf (fun v2 hf => ?_)
  refine E_aaload (pc := 21) O dX3_save_21 hf (fun v3 hf => ?_)
  refine E_aload_n (pc := 22) O 0 dX3_save_22 rfl rfl ?_
  refine E_getR (pc := 23) O FL_RailSequence_10 dX3_save_23 hf (fun v4 hf => ?_)
  refine E_callV_v (pc := 26) (S := []) O [.ref v4] CV_RailSequence_164 rfl (fun r e => t_X1_copyFrom e) dX3_save_26 hf rfl ⟨(Nat.le_of_ble_eq_true rfl), (Nat.le_of_ble_eq_true rfl)⟩ ⟨(Nat.le_of_ble_eq_true rfl), (Nat.le_of_ble_eq_true rfl)⟩ (Nat.le_of_ble_eq_true rfl) (fun h5 hf => ?_)
  refine E_aload_n (pc := 29) O 0 dX3_save_29 rfl rfl ?_
  refine E_dup (pc := 30) O dX3_save_30 rfl ?_
  refine E_getI (pc := 31) O FL_RailSequence_168 dX3_save_31 hf (fun v6 hf => ?_)
  refine E_iconst (pc := 34) O (1 : Int32) dX3_save_34 (by decide) ?_
  refine E_iadd (pc := 35) O dX3_save_35 ?_
  refine E_put (pc := 36) O FN_RailSequence_168 rfl rfl dX3_save_36 hf (fun h7 hf => ?_)
  exact E_vret (pc := 39) O Z hf ⟨(Nat.le_of_ble_eq_true rfl), (Nat.le_of_ble_eq_true rfl)⟩ dX3_save_39
set_option maxHeartbeats 4000000 in
set_option maxRecDepth 100000 in
theorem t_X3_save {g : Gx} {fr : Bool} {h : MH} {x0} {out : MH} (hf : f_X3_save h x0 = some out) : MM g yX3_save cX3_save 1 none 3 102 0 0 fr fr [.ref x0] h none out := by
  unfold f_X3_save at hf
  refine MM_of (L := [some (.ref x0)]) (by decide) (Nat.le_of_ble_eq_true rfl) rfl (fun K hK O Z hn => ?_)
  refine E_aload_n (pc := 0) O 0 dX3_save_0 rfl rfl ?_
  refine E_getI (pc := 1) O FL_RailSequence_168 dX3_save_1 hf (fun v8 hf => ?_)
  refine E_bipush (pc := 4) O (6 : Int32) dX3_save_4 (by decide) ?_
  refine E_icmp_lt (pc := 6) O 13 dX3_save_6 (by decide) hf (fun hf => ?_) (fun hf => ?_)
  · exact t_b_X3_save_13 O Z h x0 hf
  · refine E_aload_n (pc := 9) O 0 dX3_save_9 rfl rfl ?_
    refine E_callV_v (pc := 10) (S := []) O [] CV_RailSequence_260 rfl (fun r e => t_X3_dropOldestSaved e) dX3_save_10 hf rfl ⟨(Nat.le_of_ble_eq_true rfl), (Nat.le_of_ble_eq_true rfl)⟩ ⟨(Nat.le_of_ble_eq_true rfl), (Nat.le_of_ble_eq_true rfl)⟩ (Nat.le_of_ble_eq_true rfl) (fun h9 hf => ?_)
    exact t_b_X3_save_13 O Z h9 x0 hf
set_option maxHeartbeats 4000000 in
set_option maxRecDepth 100000 in
theorem t_b_X3_addRail_24 {K : Cx} {out : XR} (O : Ok K yX3_addRail.cls cX3_addRail 5 (rmm 6 122 1 6)) (Z : OutX K (some .int) out) (h : MH) (hf : b_X3_addRail_24 h = some out) : EE K (false, 0, 0) 24 [none, none, none, none, none] [] h := by
  unfold b_X3_addRail_24 at hf
  exact E_throw (pc := 24) O Z 0 38 40 42 "target, rise or fall is out of range" XT_0_38_42 (by decide) hf dX3_addRail_24 dX3_addRail_27 dX3_addRail_28 dX3_addRail_30 dX3_addRail_33 (Nat.le_of_ble_eq_true rfl) (Nat.le_of_ble_eq_true rfl) ⟨(Nat.le_of_ble_eq_true rfl), (Nat.le_of_ble_eq_true rfl)⟩
set_option maxHeartbeats 4000000 in
set_option maxRecDepth 100000 in
theorem t_X3_addRail {g : Gx} {fr : Bool} {h : MH} {x0 x1 x2 x3 x4} {out : XR} (hf : f_X3_addRail h x0 x1 x2 x3 x4 = some out) : MX g yX3_addRail cX3_addRail 5 (some .int) 6 122 fr [.ref x0, .int x1, .int x2, .int x3, .int x4] h out := by
  unfold f_X3_addRail at hf
  refine MX_of (L := [some (.ref x0), some (.int x1), some (.int x2), some (.int x3), some (.int x4)]) (by decide) (Nat.le_of_ble_eq_true rfl) rfl (fun K hK O Z => ?_)
  refine E_iconst (pc := 0) O (0 : Int32) dX3_addRail_0 (by decide) ?_
  refine E_iload_n (pc := 1) O 1 dX3_addRail_1 rfl rfl ?_
  refine E_callS_iP (pc := 2) (S := []) O [.int (0 : Int32), .int x1] CS_RailSequence_34 (fun r e => t_X3_isInRange e) dX3_addRail_2 hf rfl ⟨(Nat.le_of_ble_eq_true rfl), (Nat.le_of_ble_eq_true rfl)⟩ ⟨(Nat.le_of_ble_eq_true rfl), (Nat.le_of_ble_eq_true rfl)⟩ (Nat.le_of_ble_eq_true rfl) (fun v1 hf => ?_)
  refine E_if_eq (pc := 5) O 24 dX3_addRail_5 (by decide) hf (fun hf => ?_) (fun hf => ?_)
  · exact E_sub (L' := [none, none, none, none, none]) True.intro (t_b_X3_addRail_24 O Z h hf)
  · refine E_iconst (pc := 8) O (1 : Int32) dX3_addRail_8 (by decide) ?_
    refine E_iload_n (pc := 9) O 2 dX3_addRail_9 rfl rfl ?_
    refine E_callS_iP (pc := 10) (S := []) O [.int (1 : Int32), .int x2] CS_RailSequence_34 (fun r e => t_X3_isInRange e) dX3_addRail_10 hf rfl ⟨(Nat.le_of_ble_eq_true rfl), (Nat.le_of_ble_eq_true rfl)⟩ ⟨(Nat.le_of_ble_eq_true rfl), (Nat.le_of_ble_eq_true rfl)⟩ (Nat.le_of_ble_eq_true rfl) (fun v2 hf => ?_)
    refine E_if_eq (pc := 13) O 24 dX3_addRail_13 (by decide) hf (fun hf => ?_) (fun hf => ?_)
    · exact E_sub (L' := [none, none, none, none, none]) True.intro (t_b_X3_addRail_24 O Z h hf)
    · refine E_iconst (pc := 16) O (2 : Int32) dX3_addRail_16 (by decide) ?_
      refine E_iload_n (pc := 17) O 3 dX3_addRail_17 rfl rfl ?_
      refine E_callS_iP (pc := 18) (S := []) O [.int (2 : Int32), .int x3] CS_RailSequence_34 (fun r e => t_X3_isInRange e) dX3_addRail_18 hf rfl ⟨(Nat.le_of_ble_eq_true rfl), (Nat.le_of_ble_eq_true rfl)⟩ ⟨(Nat.le_of_ble_eq_true rfl), (Nat.le_of_ble_eq_true rfl)⟩ (Nat.le_of_ble_eq_true rfl) (fun v3 hf => ?_)
      refine E_if_ne (pc := 21) O 34 dX3_addRail_21 (by decide) hf (fun hf => ?_) (fun hf => ?_)
      · refine E_aload_n (pc := 34) O 0 dX3_addRail_34 rfl rfl ?_
        refine E_iload (pc := 35) O dX3_addRail_35 rfl ?_
        refine E_callV_iP (pc := 37) (S := []) O [.int x4] CV_RailSequence_45 rfl (fun r e => t_X3_areRails e) dX3_addRail_37 hf rfl ⟨(Nat.le_of_ble_eq_true rfl), (Nat.le_of_ble_eq_true rfl)⟩ ⟨(Nat.le_of_ble_eq_true rfl), (Nat.le_of_ble_eq_true rfl)⟩ (Nat.le_of_ble_eq_true rfl) (fun v4 hf => ?_)
        refine E_if_ne (pc := 40) O 53 dX3_addRail_40 (by decide) hf (fun hf => ?_) (fun hf => ?_)
        · refine E_aload_n (pc := 53) O 0 dX3_addRail_53 rfl rfl ?_
          refine E_getR (pc := 54) O FL_RailSequence_10 dX3_addRail_54 hf (fun v5 hf => ?_)
          refine E_getI (pc := 57) O FL_RailSequence_51 dX3_addRail_57 hf (fun v6 hf => ?_)
          refine E_bipush (pc := 60) O (8 : Int32) dX3_addRail_60 (by decide) ?_
          refine E_icmp_lt (pc := 62) O 75 dX3_addRail_62 (by decide) hf (fun hf => ?_) (fun hf => ?_)
          · refine E_aload_n (pc := 75) O 0 dX3_addRail_75 rfl rfl ?_
            refine E_callV_v (pc := 76) (S := []) O [] CV_RailSequence_60 rfl (fun r e => t_X3_save e) dX3_addRail_76 hf rfl ⟨(Nat.le_of_ble_eq_true rfl), (Nat.le_of_ble_eq_true rfl)⟩ ⟨(Nat.le_of_ble_eq_true rfl), (Nat.le_of_ble_eq_true rfl)⟩ (Nat.le_of_ble_eq_true rfl) (fun h7 hf => ?_)
            refine E_aload_n (pc := 79) O 0 dX3_addRail_79 rfl rfl ?_
            refine E_getR (pc := 80) O FL_RailSequence_10 dX3_addRail_80 hf (fun v8 hf => ?_)
            refine E_iload_n (pc := 83) O 1 dX3_addRail_83 rfl rfl ?_
            refine E_iload_n (pc := 84) O 2 dX3_addRail_84 rfl rfl ?_
            refine E_iload_n (pc := 85) O 3 dX3_addRail_85 rfl rfl ?_
            refine E_iload (pc := 86) O dX3_addRail_86 rfl ?_
            refine E_callV_v (pc := 88) (S := []) O [.int x1, .int x2, .int x3, .int x4] CV_RailSequence_63 rfl (fun r e => t_X1_add e) dX3_addRail_88 hf rfl ⟨(Nat.le_of_ble_eq_true rfl), (Nat.le_of_ble_eq_true rfl)⟩ ⟨(Nat.le_of_ble_eq_true rfl), (Nat.le_of_ble_eq_true rfl)⟩ (Nat.le_of_ble_eq_true rfl) (fun h9 hf => ?_)
            refine E_aload_n (pc := 91) O 0 dX3_addRail_91 rfl rfl ?_
            refine E_getR (pc := 92) O FL_RailSequence_10 dX3_addRail_92 hf (fun v10 hf => ?_)
            refine E_getI (pc := 95) O FL_RailSequence_51 dX3_addRail_95 hf (fun v11 hf => ?_)
            refine E_iconst (pc := 98) O (1 : Int32) dX3_addRail_98 (by decide) ?_
            refine E_isub (pc := 99) O dX3_addRail_99 ?_
            exact E_xret (pc := 100) O Z hf ⟨(Nat.le_of_ble_eq_true rfl), (Nat.le_of_ble_eq_true rfl)⟩ dX3_addRail_100
          · exact E_throw (pc := 65) O Z 1 55 57 59 "there are 8 rails" XT_1_55_59 (by decide) hf dX3_addRail_65 dX3_addRail_68 dX3_addRail_69 dX3_addRail_71 dX3_addRail_74 (Nat.le_of_ble_eq_true rfl) (Nat.le_of_ble_eq_true rfl) ⟨(Nat.le_of_ble_eq_true rfl), (Nat.le_of_ble_eq_true rfl)⟩
        · exact E_throw (pc := 43) O Z 0 38 49 42 "needs has a bit of no rail" XT_0_38_42 (by decide) hf dX3_addRail_43 dX3_addRail_46 dX3_addRail_47 dX3_addRail_49 dX3_addRail_52 (Nat.le_of_ble_eq_true rfl) (Nat.le_of_ble_eq_true rfl) ⟨(Nat.le_of_ble_eq_true rfl), (Nat.le_of_ble_eq_true rfl)⟩
      · exact E_sub (L' := [none, none, none, none, none]) True.intro (t_b_X3_addRail_24 O Z h hf)
set_option maxHeartbeats 4000000 in
set_option maxRecDepth 100000 in
theorem t_b_X3_isRail_20 {K : Cx} {fr : Bool} {out : Int32} {h : MH} (O : Ok K yX3_isRail.cls cX3_isRail 2 (rmm 0 0 0 0)) (Z : Out K (some .boolean) fr (some (.int out)) h) (s0 : Int32) (hf : b_X3_isRail_20 h s0 = some out) : EE K (fr, 0, 0) 20 [none, none] [.int s0] h := by
  unfold b_X3_isRail_20 at hf
  exact E_zretP (pc := 20) O Z hf ⟨(Nat.le_of_ble_eq_true rfl), (Nat.le_of_ble_eq_true rfl)⟩ dX3_isRail_20
set_option maxHeartbeats 4000000 in
set_option maxRecDepth 100000 in
theorem t_b_X3_isRail_19 {K : Cx} {fr : Bool} {out : Int32} {h : MH} (O : Ok K yX3_isRail.cls cX3_isRail 2 (rmm 0 0 0 0)) (Z : Out K (some .boolean) fr (some (.int out)) h)  (hf : b_X3_isRail_19 h  = some out) : EE K (fr, 0, 0) 19 [none, none] [] h := by
  unfold b_X3_isRail_19 at hf
  refine E_iconst (pc := 19) O (0 : Int32) dX3_isRail_19 (by decide) ?_
  exact t_b_X3_isRail_20 O Z (0 : Int32) hf
set_option maxHeartbeats 4000000 in
set_option maxRecDepth 100000 in
theorem t_X3_isRail {g : Gx} {fr : Bool} {h : MH} {x0 x1} {out : Int32} (hf : f_X3_isRail h x0 x1 = some out) : MM g yX3_isRail cX3_isRail 2 (some .boolean) 0 0 0 0 fr fr [.ref x0, .int x1] h (some (.int out)) h := by
  unfold f_X3_isRail at hf
  refine MM_of (L := [some (.ref x0), some (.int x1)]) (by decide) (Nat.le_of_ble_eq_true rfl) rfl (fun K hK O Z hn => ?_)
  refine E_iload_n (pc := 0) O 1 dX3_isRail_0 rfl rfl ?_
  refine E_if_lt (pc := 1) O 19 dX3_isRail_1 (by decide) hf (fun hf => ?_) (fun hf => ?_)
  · exact E_sub (L' := [none, none]) True.intro (t_b_X3_isRail_19 O Z  hf)
  · refine E_iload_n (pc := 4) O 1 dX3_isRail_4 rfl rfl ?_
    refine E_aload_n (pc := 5) O 0 dX3_isRail_5 rfl rfl ?_
    refine E_getR (pc := 6) O FL_RailSequence_10 dX3_isRail_6 hf (fun v1 hf => ?_)
    refine E_getI (pc := 9) O FL_RailSequence_51 dX3_isRail_9 hf (fun v2 hf => ?_)
    refine E_icmp_ge (pc := 12) O 19 dX3_isRail_12 (by decide) hf (fun hf => ?_) (fun hf => ?_)
    · exact E_sub (L' := [none, none]) True.intro (t_b_X3_isRail_19 O Z  hf)
    · refine E_iconst (pc := 15) O (1 : Int32) dX3_isRail_15 (by decide) ?_
      refine E_goto (pc := 16) O 20 dX3_isRail_16 (by decide) ?_
      exact E_sub (L' := [none, none]) True.intro (t_b_X3_isRail_20 O Z (1 : Int32) hf)
set_option maxHeartbeats 4000000 in
set_option maxRecDepth 100000 in
theorem t_b_X3_set_18 {K : Cx} {out : XR} (O : Ok K yX3_set.cls cX3_set 5 (rmm 6 122 1 6)) (Z : OutX K (some .int) out) (h : MH) (hf : b_X3_set_18 h = some out) : EE K (false, 0, 0) 18 [none, none, none, none, none] [] h := by
  unfold b_X3_set_18 at hf
  exact E_throw (pc := 18) O Z 2 70 72 74 "no such rail or property" XT_2_70_74 (by decide) hf dX3_set_18 dX3_set_21 dX3_set_22 dX3_set_24 dX3_set_27 (Nat.le_of_ble_eq_true rfl) (Nat.le_of_ble_eq_true rfl) ⟨(Nat.le_of_ble_eq_true rfl), (Nat.le_of_ble_eq_true rfl)⟩
set_option maxHeartbeats 4000000 in
set_option maxRecDepth 100000 in
theorem t_X3_set {g : Gx} {fr : Bool} {h : MH} {x0 x1 x2 x3} {out : XR} (hf : f_X3_set h x0 x1 x2 x3 = some out) : MX g yX3_set cX3_set 5 (some .int) 6 122 fr [.ref x0, .int x1, .int x2, .int x3] h out := by
  unfold f_X3_set at hf
  refine MX_of (L := [some (.ref x0), some (.int x1), some (.int x2), some (.int x3), none]) (by decide) (Nat.le_of_ble_eq_true rfl) rfl (fun K hK O Z => ?_)
  refine E_aload_n (pc := 0) O 0 dX3_set_0 rfl rfl ?_
  refine E_iload_n (pc := 1) O 1 dX3_set_1 rfl rfl ?_
  refine E_callV_iP (pc := 2) (S := []) O [.int x1] CV_RailSequence_67 rfl (fun r e => t_X3_isRail e) dX3_set_2 hf rfl ⟨(Nat.le_of_ble_eq_true rfl), (Nat.le_of_ble_eq_true rfl)⟩ ⟨(Nat.le_of_ble_eq_true rfl), (Nat.le_of_ble_eq_true rfl)⟩ (Nat.le_of_ble_eq_true rfl) (fun v1 hf => ?_)
  refine E_if_eq (pc := 5) O 18 dX3_set_5 (by decide) hf (fun hf => ?_) (fun hf => ?_)
  · exact E_sub (L' := [none, none, none, none, none]) True.intro (t_b_X3_set_18 O Z h hf)
  · refine E_iload_n (pc := 8) O 2 dX3_set_8 rfl rfl ?_
    refine E_if_lt (pc := 9) O 18 dX3_set_9 (by decide) hf (fun hf => ?_) (fun hf => ?_)
    · exact E_sub (L' := [none, none, none, none, none]) True.intro (t_b_X3_set_18 O Z h hf)
    · refine E_iload_n (pc := 12) O 2 dX3_set_12 rfl rfl ?_
      refine E_bipush (pc := 13) O (7 : Int32) dX3_set_13 (by decide) ?_
      refine E_icmp_lt (pc := 15) O 28 dX3_set_15 (by decide) hf (fun hf => ?_) (fun hf => ?_)
      · refine E_iload_n (pc := 28) O 2 dX3_set_28 rfl rfl ?_
        refine E_iload_n (pc := 29) O 3 dX3_set_29 rfl rfl ?_
        refine E_callS_iP (pc := 30) (S := []) O [.int x2, .int x3] CS_RailSequence_34 (fun r e => t_X3_isInRange e) dX3_set_30 hf rfl ⟨(Nat.le_of_ble_eq_true rfl), (Nat.le_of_ble_eq_true rfl)⟩ ⟨(Nat.le_of_ble_eq_true rfl), (Nat.le_of_ble_eq_true rfl)⟩ (Nat.le_of_ble_eq_true rfl) (fun v2 hf => ?_)
        refine E_if_ne (pc := 33) O 46 dX3_set_33 (by decide) hf (fun hf => ?_) (fun hf => ?_)
        · refine E_aload_n (pc := 46) O 0 dX3_set_46 rfl rfl ?_
          refine E_callV_v (pc := 47) (S := []) O [] CV_RailSequence_60 rfl (fun r e => t_X3_save e) dX3_set_47 hf rfl ⟨(Nat.le_of_ble_eq_true rfl), (Nat.le_of_ble_eq_true rfl)⟩ ⟨(Nat.le_of_ble_eq_true rfl), (Nat.le_of_ble_eq_true rfl)⟩ (Nat.le_of_ble_eq_true rfl) (fun h3 hf => ?_)
          refine E_aload_n (pc := 50) O 0 dX3_set_50 rfl rfl ?_
          refine E_getR (pc := 51) O FL_RailSequence_10 dX3_set_51 hf (fun v4 hf => ?_)
          refine E_iload_n (pc := 54) O 1 dX3_set_54 rfl rfl ?_
          refine E_iload_n (pc := 55) O 2 dX3_set_55 rfl rfl ?_
          refine E_callV_iP (pc := 56) (S := []) O [.int x1, .int x2] CV_RailSequence_77 rfl (fun r e => t_X1_propertyOf e) dX3_set_56 hf rfl ⟨(Nat.le_of_ble_eq_true rfl), (Nat.le_of_ble_eq_true rfl)⟩ ⟨(Nat.le_of_ble_eq_true rfl), (Nat.le_of_ble_eq_true rfl)⟩ (Nat.le_of_ble_eq_true rfl) (fun v5 hf => ?_)
          refine E_istore (pc := 59) O [some (.ref x0), some (.int x1), some (.int x2), some (.int x3), some (.int v5)] dX3_set_59 (by decide) rfl rfl ?_
          refine E_aload_n (pc := 61) O 0 dX3_set_61 rfl rfl ?_
          refine E_getR (pc := 62) O FL_RailSequence_10 dX3_set_62 hf (fun v6 hf => ?_)
          refine E_getR (pc := 65) O FL_RailSequence_81 dX3_set_65 hf (fun v7 hf => ?_)
          refine E_iload_n (pc := 68) O 1 dX3_set_68 rfl rfl ?_
          refine E_bipush (pc := 69) O (7 : Int32) dX3_set_69 (by decide) ?_
          refine E_imul (pc := 71) O dX3_set_71 ?_
          refine E_iload_n (pc := 72) O 2 dX3_set_72 rfl rfl ?_
          refine E_iadd (pc := 73) O dX3_set_73 ?_
          refine E_iload_n (pc := 74) O 3 dX3_set_74 rfl rfl ?_
          refine E_iastore (pc := 75) O dX3_set_75 hf (fun h8 hf => ?_)
          refine E_iload (pc := 76) O dX3_set_76 rfl ?_
          exact E_xret (pc := 78) O Z hf ⟨(Nat.le_of_ble_eq_true rfl), (Nat.le_of_ble_eq_true rfl)⟩ dX3_set_78
        · exact E_throw (pc := 36) O Z 0 38 75 42 "value is out of range" XT_0_38_42 (by decide) hf dX3_set_36 dX3_set_39 dX3_set_40 dX3_set_42 dX3_set_45 (Nat.le_of_ble_eq_true rfl) (Nat.le_of_ble_eq_true rfl) ⟨(Nat.le_of_ble_eq_true rfl), (Nat.le_of_ble_eq_true rfl)⟩
      · exact E_sub (L' := [none, none, none, none, none]) True.intro (t_b_X3_set_18 O Z h hf)
set_option maxHeartbeats 4000000 in
set_option maxRecDepth 100000 in
theorem t_b_X3_setNeeds_71 {K : Cx} {out : XR} (O : Ok K yX3_setNeeds.cls cX3_setNeeds 4 (rmm 6 122 1 6)) (Z : OutX K (some .int) out) (h : MH) (x0 : Nat) (x1 : Int32) (x2 : Int32) (hf : b_X3_setNeeds_71 h x0 x1 x2 = some out) : EE K (false, 0, 0) 71 [some (.ref x0), some (.int x1), some (.int x2), none] [] h := by
  unfold b_X3_setNeeds_71 at hf
  refine E_aload_n (pc := 71) O 0 dX3_setNeeds_71 rfl rfl ?_
  refine E_callV_v (pc := 72) (S := []) O [] CV_RailSequence_60 rfl (fun r e => t_X3_save e) dX3_setNeeds_72 hf rfl ⟨(Nat.le_of_ble_eq_true rfl), (Nat.le_of_ble_eq_true rfl)⟩ ⟨(Nat.le_of_ble_eq_true rfl), (Nat.le_of_ble_eq_true rfl)⟩ (Nat.le_of_ble_eq_true rfl) (fun h1 hf => ?_)
  refine E_aload_n (pc := 75) O 0 dX3_setNeeds_75 rfl rfl ?_
  refine E_getR (pc := 76) O FL_RailSequence_10 dX3_setNeeds_76 hf (fun v2 hf => ?_)
  refine E_getR (pc := 79) O FL_RailSequence_96 dX3_setNeeds_79 hf (fun v3 hf => ?_)
  refine E_iload_n (pc := 82) O 1 dX3_setNeeds_82 rfl rfl ?_
  refine E_iaload (pc := 83) O dX3_setNeeds_83 hf (fun v4 hf => ?_)
  refine E_istore_n (pc := 84) O 3 [some (.ref x0), some (.int x1), some (.int x2), some (.int v4)] dX3_setNeeds_84 rfl (by decide) rfl rfl ?_
  refine E_aload_n (pc := 85) O 0 dX3_setNeeds_85 rfl rfl ?_
  refine E_getR (pc := 86) O FL_RailSequence_10 dX3_setNeeds_86 hf (fun v5 hf => ?_)
  refine E_getR (pc := 89) O FL_RailSequence_96 dX3_setNeeds_89 hf (fun v6 hf => ?_)
  refine E_iload_n (pc := 92) O 1 dX3_setNeeds_92 rfl rfl ?_
  refine E_iload_n (pc := 93) O 2 dX3_setNeeds_93 rfl rfl ?_
  refine E_iastore (pc := 94) O dX3_setNeeds_94 hf (fun h7 hf => ?_)
  refine E_iload_n (pc := 95) O 3 dX3_setNeeds_95 rfl rfl ?_
  exact E_xret (pc := 96) O Z hf ⟨(Nat.le_of_ble_eq_true rfl), (Nat.le_of_ble_eq_true rfl)⟩ dX3_setNeeds_96
set_option maxHeartbeats 4000000 in
set_option maxRecDepth 100000 in
theorem t_X3_setNeeds {g : Gx} {fr : Bool} {h : MH} {x0 x1 x2} {out : XR} (hf : f_X3_setNeeds h x0 x1 x2 = some out) : MX g yX3_setNeeds cX3_setNeeds 4 (some .int) 6 122 fr [.ref x0, .int x1, .int x2] h out := by
  unfold f_X3_setNeeds at hf
  refine MX_of (L := [some (.ref x0), some (.int x1), some (.int x2), none]) (by decide) (Nat.le_of_ble_eq_true rfl) rfl (fun K hK O Z => ?_)
  refine E_aload_n (pc := 0) O 0 dX3_setNeeds_0 rfl rfl ?_
  refine E_iload_n (pc := 1) O 1 dX3_setNeeds_1 rfl rfl ?_
  refine E_callV_iP (pc := 2) (S := []) O [.int x1] CV_RailSequence_67 rfl (fun r e => t_X3_isRail e) dX3_setNeeds_2 hf rfl ⟨(Nat.le_of_ble_eq_true rfl), (Nat.le_of_ble_eq_true rfl)⟩ ⟨(Nat.le_of_ble_eq_true rfl), (Nat.le_of_ble_eq_true rfl)⟩ (Nat.le_of_ble_eq_true rfl) (fun v8 hf => ?_)
  refine E_if_ne (pc := 5) O 18 dX3_setNeeds_5 (by decide) hf (fun hf => ?_) (fun hf => ?_)
  · refine E_iload_n (pc := 18) O 1 dX3_setNeeds_18 rfl rfl ?_
    refine E_iload_n (pc := 19) O 2 dX3_setNeeds_19 rfl rfl ?_
    refine E_callS_iP (pc := 20) (S := []) O [.int x1, .int x2] CS_RailSequence_86 (fun r e => t_X3_areBelow e) dX3_setNeeds_20 hf rfl ⟨(Nat.le_of_ble_eq_true rfl), (Nat.le_of_ble_eq_true rfl)⟩ ⟨(Nat.le_of_ble_eq_true rfl), (Nat.le_of_ble_eq_true rfl)⟩ (Nat.le_of_ble_eq_true rfl) (fun v9 hf => ?_)
    refine E_if_ne (pc := 23) O 36 dX3_setNeeds_23 (by decide) hf (fun hf => ?_) (fun hf => ?_)
    · refine E_aload_n (pc := 36) O 0 dX3_setNeeds_36 rfl rfl ?_
      refine E_getR (pc := 37) O FL_RailSequence_10 dX3_setNeeds_37 hf (fun v10 hf => ?_)
      refine E_getR (pc := 40) O FL_RailSequence_91 dX3_setNeeds_40 hf (fun v11 hf => ?_)
      refine E_iload_n (pc := 43) O 1 dX3_setNeeds_43 rfl rfl ?_
      refine E_iaload (pc := 44) O dX3_setNeeds_44 hf (fun v12 hf => ?_)
      refine E_if_eq (pc := 45) O 71 dX3_setNeeds_45 (by decide) hf (fun hf => ?_) (fun hf => ?_)
      · exact t_b_X3_setNeeds_71 O Z h x0 x1 x2 hf
      · refine E_aload_n (pc := 48) O 0 dX3_setNeeds_48 rfl rfl ?_
        refine E_getR (pc := 49) O FL_RailSequence_10 dX3_setNeeds_49 hf (fun v13 hf => ?_)
        refine E_getR (pc := 52) O FL_RailSequence_91 dX3_setNeeds_52 hf (fun v14 hf => ?_)
        refine E_iload_n (pc := 55) O 1 dX3_setNeeds_55 rfl rfl ?_
        refine E_iaload (pc := 56) O dX3_setNeeds_56 hf (fun v15 hf => ?_)
        refine E_iconst (pc := 57) O (5 : Int32) dX3_setNeeds_57 (by decide) ?_
        refine E_icmp_eq (pc := 58) O 71 dX3_setNeeds_58 (by decide) hf (fun hf => ?_) (fun hf => ?_)
        · exact t_b_X3_setNeeds_71 O Z h x0 x1 x2 hf
        · exact E_throw (pc := 61) O Z 1 55 94 59 "the rail is neither off nor failed" XT_1_55_59 (by decide) hf dX3_setNeeds_61 dX3_setNeeds_64 dX3_setNeeds_65 dX3_setNeeds_67 dX3_setNeeds_70 (Nat.le_of_ble_eq_true rfl) (Nat.le_of_ble_eq_true rfl) ⟨(Nat.le_of_ble_eq_true rfl), (Nat.le_of_ble_eq_true rfl)⟩
    · exact E_throw (pc := 26) O Z 0 38 89 42 "needs has a bit of no earlier rail" XT_0_38_42 (by decide) hf dX3_setNeeds_26 dX3_setNeeds_29 dX3_setNeeds_30 dX3_setNeeds_32 dX3_setNeeds_35 (Nat.le_of_ble_eq_true rfl) (Nat.le_of_ble_eq_true rfl) ⟨(Nat.le_of_ble_eq_true rfl), (Nat.le_of_ble_eq_true rfl)⟩
  · exact E_throw (pc := 8) O Z 2 70 84 74 "no such rail" XT_2_70_74 (by decide) hf dX3_setNeeds_8 dX3_setNeeds_11 dX3_setNeeds_12 dX3_setNeeds_14 dX3_setNeeds_17 (Nat.le_of_ble_eq_true rfl) (Nat.le_of_ble_eq_true rfl) ⟨(Nat.le_of_ble_eq_true rfl), (Nat.le_of_ble_eq_true rfl)⟩
set_option maxHeartbeats 4000000 in
set_option maxRecDepth 100000 in
theorem t_b_X3_setResidue_11 {K : Cx} {out : XR} (O : Ok K yX3_setResidue.cls cX3_setResidue 3 (rmm 6 122 1 6)) (Z : OutX K (some .int) out) (h : MH) (hf : b_X3_setResidue_11 h = some out) : EE K (false, 0, 0) 11 [none, none, none] [] h := by
  unfold b_X3_setResidue_11 at hf
  exact E_throw (pc := 11) O Z 0 38 99 42 "residue is out of range" XT_0_38_42 (by decide) hf dX3_setResidue_11 dX3_setResidue_14 dX3_setResidue_15 dX3_setResidue_17 dX3_setResidue_20 (Nat.le_of_ble_eq_true rfl) (Nat.le_of_ble_eq_true rfl) ⟨(Nat.le_of_ble_eq_true rfl), (Nat.le_of_ble_eq_true rfl)⟩
set_option maxHeartbeats 4000000 in
set_option maxRecDepth 100000 in
theorem t_X3_setResidue {g : Gx} {fr : Bool} {h : MH} {x0 x1} {out : XR} (hf : f_X3_setResidue h x0 x1 = some out) : MX g yX3_setResidue cX3_setResidue 3 (some .int) 6 122 fr [.ref x0, .int x1] h out := by
  unfold f_X3_setResidue at hf
  refine MX_of (L := [some (.ref x0), some (.int x1), none]) (by decide) (Nat.le_of_ble_eq_true rfl) rfl (fun K hK O Z => ?_)
  refine E_iload_n (pc := 0) O 1 dX3_setResidue_0 rfl rfl ?_
  refine E_if_lt (pc := 1) O 11 dX3_setResidue_1 (by decide) hf (fun hf => ?_) (fun hf => ?_)
  · exact E_sub (L' := [none, none, none]) True.intro (t_b_X3_setResidue_11 O Z h hf)
  · refine E_iload_n (pc := 4) O 1 dX3_setResidue_4 rfl rfl ?_
    refine E_sipush (pc := 5) O (500 : Int32) dX3_setResidue_5 (by decide) ?_
    refine E_icmp_le (pc := 8) O 21 dX3_setResidue_8 (by decide) hf (fun hf => ?_) (fun hf => ?_)
    · refine E_aload_n (pc := 21) O 0 dX3_setResidue_21 rfl rfl ?_
      refine E_callV_v (pc := 22) (S := []) O [] CV_RailSequence_60 rfl (fun r e => t_X3_save e) dX3_setResidue_22 hf rfl ⟨(Nat.le_of_ble_eq_true rfl), (Nat.le_of_ble_eq_true rfl)⟩ ⟨(Nat.le_of_ble_eq_true rfl), (Nat.le_of_ble_eq_true rfl)⟩ (Nat.le_of_ble_eq_true rfl) (fun h1 hf => ?_)
      refine E_aload_n (pc := 25) O 0 dX3_setResidue_25 rfl rfl ?_
      refine E_getR (pc := 26) O FL_RailSequence_10 dX3_setResidue_26 hf (fun v2 hf => ?_)
      refine E_getI (pc := 29) O FL_RailSequence_101 dX3_setResidue_29 hf (fun v3 hf => ?_)
      refine E_istore_n (pc := 32) O 2 [some (.ref x0), some (.int x1), some (.int v3)] dX3_setResidue_32 rfl (by decide) rfl rfl ?_
      refine E_aload_n (pc := 33) O 0 dX3_setResidue_33 rfl rfl ?_
      refine E_getR (pc := 34) O FL_RailSequence_10 dX3_setResidue_34 hf (fun v4 hf => ?_)
      refine E_iload_n (pc := 37) O 1 dX3_setResidue_37 rfl rfl ?_
      refine E_put (pc := 38) O FN_RailSequence_101 rfl rfl dX3_setResidue_38 hf (fun h5 hf => ?_)
      refine E_iload_n (pc := 41) O 2 dX3_setResidue_41 rfl rfl ?_
      exact E_xret (pc := 42) O Z hf ⟨(Nat.le_of_ble_eq_true rfl), (Nat.le_of_ble_eq_true rfl)⟩ dX3_setResidue_42
    · exact E_sub (L' := [none, none, none]) True.intro (t_b_X3_setResidue_11 O Z h hf)
set_option maxHeartbeats 4000000 in
set_option maxRecDepth 100000 in
theorem t_X3_on {g : Gx} {fr : Bool} {h : MH} {x0 x1} {out : XR} (hf : f_X3_on h x0 x1 = some out) : MX g yX3_on cX3_on 2 (some .int) 6 122 fr [.ref x0, .int x1] h out := by
  unfold f_X3_on at hf
  refine MX_of (L := [some (.ref x0), some (.int x1)]) (by decide) (Nat.le_of_ble_eq_true rfl) rfl (fun K hK O Z => ?_)
  refine E_aload_n (pc := 0) O 0 dX3_on_0 rfl rfl ?_
  refine E_iload_n (pc := 1) O 1 dX3_on_1 rfl rfl ?_
  refine E_callV_iP (pc := 2) (S := []) O [.int x1] CV_RailSequence_45 rfl (fun r e => t_X3_areRails e) dX3_on_2 hf rfl ⟨(Nat.le_of_ble_eq_true rfl), (Nat.le_of_ble_eq_true rfl)⟩ ⟨(Nat.le_of_ble_eq_true rfl), (Nat.le_of_ble_eq_true rfl)⟩ (Nat.le_of_ble_eq_true rfl) (fun v1 hf => ?_)
  refine E_if_ne (pc := 5) O 18 dX3_on_5 (by decide) hf (fun hf => ?_) (fun hf => ?_)
  · refine E_aload_n (pc := 18) O 0 dX3_on_18 rfl rfl ?_
    refine E_callV_v (pc := 19) (S := []) O [] CV_RailSequence_60 rfl (fun r e => t_X3_save e) dX3_on_19 hf rfl ⟨(Nat.le_of_ble_eq_true rfl), (Nat.le_of_ble_eq_true rfl)⟩ ⟨(Nat.le_of_ble_eq_true rfl), (Nat.le_of_ble_eq_true rfl)⟩ (Nat.le_of_ble_eq_true rfl) (fun h2 hf => ?_)
    refine E_aload_n (pc := 22) O 0 dX3_on_22 rfl rfl ?_
    refine E_getR (pc := 23) O FL_RailSequence_10 dX3_on_23 hf (fun v3 hf => ?_)
    refine E_dup (pc := 26) O dX3_on_26 rfl ?_
    refine E_getI (pc := 27) O FL_RailSequence_106 dX3_on_27 hf (fun v4 hf => ?_)
    refine E_aload_n (pc := 30) O 0 dX3_on_30 rfl rfl ?_
    refine E_getR (pc := 31) O FL_RailSequence_10 dX3_on_31 hf (fun v5 hf => ?_)
    refine E_iload_n (pc := 34) O 1 dX3_on_34 rfl rfl ?_
    refine E_callV_iP (pc := 35) (S := [.int v4, .ref v3]) O [.int x1] CV_RailSequence_109 rfl (fun r e => t_X1_withAllNeeded e) dX3_on_35 hf rfl ⟨(Nat.le_of_ble_eq_true rfl), (Nat.le_of_ble_eq_true rfl)⟩ ⟨(Nat.le_of_ble_eq_true rfl), (Nat.le_of_ble_eq_true rfl)⟩ (Nat.le_of_ble_eq_true rfl) (fun v6 hf => ?_)
    refine E_ior (pc := 38) O dX3_on_38 ?_
    refine E_put (pc := 39) O FN_RailSequence_106 rfl rfl dX3_on_39 hf (fun h7 hf => ?_)
    refine E_aload_n (pc := 42) O 0 dX3_on_42 rfl rfl ?_
    refine E_getR (pc := 43) O FL_RailSequence_10 dX3_on_43 hf (fun v8 hf => ?_)
    refine E_getI (pc := 46) O FL_RailSequence_106 dX3_on_46 hf (fun v9 hf => ?_)
    exact E_xret (pc := 49) O Z hf ⟨(Nat.le_of_ble_eq_true rfl), (Nat.le_of_ble_eq_true rfl)⟩ dX3_on_49
  · exact E_throw (pc := 8) O Z 0 38 104 42 "rails has a bit of no rail" XT_0_38_42 (by decide) hf dX3_on_8 dX3_on_11 dX3_on_12 dX3_on_14 dX3_on_17 (Nat.le_of_ble_eq_true rfl) (Nat.le_of_ble_eq_true rfl) ⟨(Nat.le_of_ble_eq_true rfl), (Nat.le_of_ble_eq_true rfl)⟩
set_option maxHeartbeats 4000000 in
set_option maxRecDepth 100000 in
theorem t_X3_off {g : Gx} {fr : Bool} {h : MH} {x0 x1} {out : XR} (hf : f_X3_off h x0 x1 = some out) : MX g yX3_off cX3_off 2 (some .int) 6 122 fr [.ref x0, .int x1] h out := by
  unfold f_X3_off at hf
  refine MX_of (L := [some (.ref x0), some (.int x1)]) (by decide) (Nat.le_of_ble_eq_true rfl) rfl (fun K hK O Z => ?_)
  refine E_aload_n (pc := 0) O 0 dX3_off_0 rfl rfl ?_
  refine E_iload_n (pc := 1) O 1 dX3_off_1 rfl rfl ?_
  refine E_callV_iP (pc := 2) (S := []) O [.int x1] CV_RailSequence_45 rfl (fun r e => t_X3_areRails e) dX3_off_2 hf rfl ⟨(Nat.le_of_ble_eq_true rfl), (Nat.le_of_ble_eq_true rfl)⟩ ⟨(Nat.le_of_ble_eq_true rfl), (Nat.le_of_ble_eq_true rfl)⟩ (Nat.le_of_ble_eq_true rfl) (fun v1 hf => ?_)
  refine E_if_ne (pc := 5) O 18 dX3_off_5 (by decide) hf (fun hf => ?_) (fun hf => ?_)
  · refine E_aload_n (pc := 18) O 0 dX3_off_18 rfl rfl ?_
    refine E_callV_v (pc := 19) (S := []) O [] CV_RailSequence_60 rfl (fun r e => t_X3_save e) dX3_off_19 hf rfl ⟨(Nat.le_of_ble_eq_true rfl), (Nat.le_of_ble_eq_true rfl)⟩ ⟨(Nat.le_of_ble_eq_true rfl), (Nat.le_of_ble_eq_true rfl)⟩ (Nat.le_of_ble_eq_true rfl) (fun h2 hf => ?_)
    refine E_aload_n (pc := 22) O 0 dX3_off_22 rfl rfl ?_
    refine E_getR (pc := 23) O FL_RailSequence_10 dX3_off_23 hf (fun v3 hf => ?_)
    refine E_dup (pc := 26) O dX3_off_26 rfl ?_
    refine E_getI (pc := 27) O FL_RailSequence_106 dX3_off_27 hf (fun v4 hf => ?_)
    refine E_aload_n (pc := 30) O 0 dX3_off_30 rfl rfl ?_
    refine E_getR (pc := 31) O FL_RailSequence_10 dX3_off_31 hf (fun v5 hf => ?_)
    refine E_iload_n (pc := 34) O 1 dX3_off_34 rfl rfl ?_
    refine E_callV_iP (pc := 35) (S := [.int v4, .ref v3]) O [.int x1] CV_RailSequence_113 rfl (fun r e => t_X1_withFollowers e) dX3_off_35 hf rfl ⟨(Nat.le_of_ble_eq_true rfl), (Nat.le_of_ble_eq_true rfl)⟩ ⟨(Nat.le_of_ble_eq_true rfl), (Nat.le_of_ble_eq_true rfl)⟩ (Nat.le_of_ble_eq_true rfl) (fun v6 hf => ?_)
    refine E_iconst (pc := 38) O (-1 : Int32) dX3_off_38 (by decide) ?_
    refine E_ixor (pc := 39) O dX3_off_39 ?_
    refine E_iand (pc := 40) O dX3_off_40 ?_
    refine E_put (pc := 41) O FN_RailSequence_106 rfl rfl dX3_off_41 hf (fun h7 hf => ?_)
    refine E_aload_n (pc := 44) O 0 dX3_off_44 rfl rfl ?_
    refine E_getR (pc := 45) O FL_RailSequence_10 dX3_off_45 hf (fun v8 hf => ?_)
    refine E_getI (pc := 48) O FL_RailSequence_106 dX3_off_48 hf (fun v9 hf => ?_)
    exact E_xret (pc := 51) O Z hf ⟨(Nat.le_of_ble_eq_true rfl), (Nat.le_of_ble_eq_true rfl)⟩ dX3_off_51
  · exact E_throw (pc := 8) O Z 0 38 104 42 "rails has a bit of no rail" XT_0_38_42 (by decide) hf dX3_off_8 dX3_off_11 dX3_off_12 dX3_off_14 dX3_off_17 (Nat.le_of_ble_eq_true rfl) (Nat.le_of_ble_eq_true rfl) ⟨(Nat.le_of_ble_eq_true rfl), (Nat.le_of_ble_eq_true rfl)⟩
set_option maxHeartbeats 4000000 in
set_option maxRecDepth 100000 in
theorem t_X3_restart {g : Gx} {fr : Bool} {h : MH} {x0 x1} {out : XR} (hf : f_X3_restart h x0 x1 = some out) : MX g yX3_restart cX3_restart 2 (some .int) 6 130 fr [.ref x0, .int x1] h out := by
  unfold f_X3_restart at hf
  refine MX_of (L := [some (.ref x0), some (.int x1)]) (by decide) (Nat.le_of_ble_eq_true rfl) rfl (fun K hK O Z => ?_)
  refine E_aload_n (pc := 0) O 0 dX3_restart_0 rfl rfl ?_
  refine E_iload_n (pc := 1) O 1 dX3_restart_1 rfl rfl ?_
  refine E_callV_iP (pc := 2) (S := []) O [.int x1] CV_RailSequence_67 rfl (fun r e => t_X3_isRail e) dX3_restart_2 hf rfl ⟨(Nat.le_of_ble_eq_true rfl), (Nat.le_of_ble_eq_true rfl)⟩ ⟨(Nat.le_of_ble_eq_true rfl), (Nat.le_of_ble_eq_true rfl)⟩ (Nat.le_of_ble_eq_true rfl) (fun v1 hf => ?_)
  refine E_if_ne (pc := 5) O 18 dX3_restart_5 (by decide) hf (fun hf => ?_) (fun hf => ?_)
  · refine E_aload_n (pc := 18) O 0 dX3_restart_18 rfl rfl ?_
    refine E_getR (pc := 19) O FL_RailSequence_10 dX3_restart_19 hf (fun v2 hf => ?_)
    refine E_iload_n (pc := 22) O 1 dX3_restart_22 rfl rfl ?_
    refine E_callV_iP (pc := 23) (S := []) O [.int x1] CV_RailSequence_116 rfl (fun r e => t_X1_isWanted e) dX3_restart_23 hf rfl ⟨(Nat.le_of_ble_eq_true rfl), (Nat.le_of_ble_eq_true rfl)⟩ ⟨(Nat.le_of_ble_eq_true rfl), (Nat.le_of_ble_eq_true rfl)⟩ (Nat.le_of_ble_eq_true rfl) (fun v3 hf => ?_)
    refine E_if_ne (pc := 26) O 39 dX3_restart_26 (by decide) hf (fun hf => ?_) (fun hf => ?_)
    · refine E_aload_n (pc := 39) O 0 dX3_restart_39 rfl rfl ?_
      refine E_callV_v (pc := 40) (S := []) O [] CV_RailSequence_60 rfl (fun r e => t_X3_save e) dX3_restart_40 hf rfl ⟨(Nat.le_of_ble_eq_true rfl), (Nat.le_of_ble_eq_true rfl)⟩ ⟨(Nat.le_of_ble_eq_true rfl), (Nat.le_of_ble_eq_true rfl)⟩ (Nat.le_of_ble_eq_true rfl) (fun h4 hf => ?_)
      refine E_aload_n (pc := 43) O 0 dX3_restart_43 rfl rfl ?_
      refine E_getR (pc := 44) O FL_RailSequence_10 dX3_restart_44 hf (fun v5 hf => ?_)
      refine E_iload_n (pc := 47) O 1 dX3_restart_47 rfl rfl ?_
      refine E_callV_i (pc := 48) (S := []) O [.int x1] CV_RailSequence_121 rfl (fun r e => t_X1_dropForRestart e) dX3_restart_48 hf rfl ⟨(Nat.le_of_ble_eq_true rfl), (Nat.le_of_ble_eq_true rfl)⟩ ⟨(Nat.le_of_ble_eq_true rfl), (Nat.le_of_ble_eq_true rfl)⟩ (Nat.le_of_ble_eq_true rfl) (fun p6 hf => ?_)
      exact E_xret (pc := 51) O Z hf ⟨(Nat.le_of_ble_eq_true rfl), (Nat.le_of_ble_eq_true rfl)⟩ dX3_restart_51
    · exact E_throw (pc := 29) O Z 1 55 119 59 "the rail is not wanted" XT_1_55_59 (by decide) hf dX3_restart_29 dX3_restart_32 dX3_restart_33 dX3_restart_35 dX3_restart_38 (Nat.le_of_ble_eq_true rfl) (Nat.le_of_ble_eq_true rfl) ⟨(Nat.le_of_ble_eq_true rfl), (Nat.le_of_ble_eq_true rfl)⟩
  · exact E_throw (pc := 8) O Z 2 70 84 74 "no such rail" XT_2_70_74 (by decide) hf dX3_restart_8 dX3_restart_11 dX3_restart_12 dX3_restart_14 dX3_restart_17 (Nat.le_of_ble_eq_true rfl) (Nat.le_of_ble_eq_true rfl) ⟨(Nat.le_of_ble_eq_true rfl), (Nat.le_of_ble_eq_true rfl)⟩
set_option maxHeartbeats 4000000 in
set_option maxRecDepth 100000 in
theorem t_b_X3_shortCircuit_29 {K : Cx} {out : XR} (O : Ok K yX3_shortCircuit.cls cX3_shortCircuit 4 (rmm 6 122 1 6)) (Z : OutX K (some .int) out) (h : MH) (hf : b_X3_shortCircuit_29 h = some out) : EE K (false, 0, 0) 29 [none, none, none, none] [] h := by
  unfold b_X3_shortCircuit_29 at hf
  exact E_throw (pc := 29) O Z 0 38 124 42 "ticks is out of range" XT_0_38_42 (by decide) hf dX3_shortCircuit_29 dX3_shortCircuit_32 dX3_shortCircuit_33 dX3_shortCircuit_35 dX3_shortCircuit_38 (Nat.le_of_ble_eq_true rfl) (Nat.le_of_ble_eq_true rfl) ⟨(Nat.le_of_ble_eq_true rfl), (Nat.le_of_ble_eq_true rfl)⟩
set_option maxHeartbeats 4000000 in
set_option maxRecDepth 100000 in
theorem t_X3_shortCircuit {g : Gx} {fr : Bool} {h : MH} {x0 x1 x2} {out : XR} (hf : f_X3_shortCircuit h x0 x1 x2 = some out) : MX g yX3_shortCircuit cX3_shortCircuit 4 (some .int) 6 122 fr [.ref x0, .int x1, .int x2] h out := by
  unfold f_X3_shortCircuit at hf
  refine MX_of (L := [some (.ref x0), some (.int x1), some (.int x2), none]) (by decide) (Nat.le_of_ble_eq_true rfl) rfl (fun K hK O Z => ?_)
  refine E_aload_n (pc := 0) O 0 dX3_shortCircuit_0 rfl rfl ?_
  refine E_iload_n (pc := 1) O 1 dX3_shortCircuit_1 rfl rfl ?_
  refine E_callV_iP (pc := 2) (S := []) O [.int x1] CV_RailSequence_67 rfl (fun r e => t_X3_isRail e) dX3_shortCircuit_2 hf rfl ⟨(Nat.le_of_ble_eq_true rfl), (Nat.le_of_ble_eq_true rfl)⟩ ⟨(Nat.le_of_ble_eq_true rfl), (Nat.le_of_ble_eq_true rfl)⟩ (Nat.le_of_ble_eq_true rfl) (fun v1 hf => ?_)
  refine E_if_ne (pc := 5) O 18 dX3_shortCircuit_5 (by decide) hf (fun hf => ?_) (fun hf => ?_)
  · refine E_iload_n (pc := 18) O 2 dX3_shortCircuit_18 rfl rfl ?_
    refine E_if_lt (pc := 19) O 29 dX3_shortCircuit_19 (by decide) hf (fun hf => ?_) (fun hf => ?_)
    · exact E_sub (L' := [none, none, none, none]) True.intro (t_b_X3_shortCircuit_29 O Z h hf)
    · refine E_iload_n (pc := 22) O 2 dX3_shortCircuit_22 rfl rfl ?_
      refine E_sipush (pc := 23) O (500 : Int32) dX3_shortCircuit_23 (by decide) ?_
      refine E_icmp_le (pc := 26) O 39 dX3_shortCircuit_26 (by decide) hf (fun hf => ?_) (fun hf => ?_)
      · refine E_aload_n (pc := 39) O 0 dX3_shortCircuit_39 rfl rfl ?_
        refine E_callV_v (pc := 40) (S := []) O [] CV_RailSequence_60 rfl (fun r e => t_X3_save e) dX3_shortCircuit_40 hf rfl ⟨(Nat.le_of_ble_eq_true rfl), (Nat.le_of_ble_eq_true rfl)⟩ ⟨(Nat.le_of_ble_eq_true rfl), (Nat.le_of_ble_eq_true rfl)⟩ (Nat.le_of_ble_eq_true rfl) (fun h2 hf => ?_)
        refine E_aload_n (pc := 43) O 0 dX3_shortCircuit_43 rfl rfl ?_
        refine E_getR (pc := 44) O FL_RailSequence_10 dX3_shortCircuit_44 hf (fun v3 hf => ?_)
        refine E_getR (pc := 47) O FL_RailSequence_126 dX3_shortCircuit_47 hf (fun v4 hf => ?_)
        refine E_iload_n (pc := 50) O 1 dX3_shortCircuit_50 rfl rfl ?_
        refine E_iaload (pc := 51) O dX3_shortCircuit_51 hf (fun v5 hf => ?_)
        refine E_istore_n (pc := 52) O 3 [some (.ref x0), some (.int x1), some (.int x2), some (.int v5)] dX3_shortCircuit_52 rfl (by decide) rfl rfl ?_
        refine E_aload_n (pc := 53) O 0 dX3_shortCircuit_53 rfl rfl ?_
        refine E_getR (pc := 54) O FL_RailSequence_10 dX3_shortCircuit_54 hf (fun v6 hf => ?_)
        refine E_getR (pc := 57) O FL_RailSequence_126 dX3_shortCircuit_57 hf (fun v7 hf => ?_)
        refine E_iload_n (pc := 60) O 1 dX3_shortCircuit_60 rfl rfl ?_
        refine E_iload_n (pc := 61) O 2 dX3_shortCircuit_61 rfl rfl ?_
        refine E_iastore (pc := 62) O dX3_shortCircuit_62 hf (fun h8 hf => ?_)
        refine E_iload_n (pc := 63) O 3 dX3_shortCircuit_63 rfl rfl ?_
        exact E_xret (pc := 64) O Z hf ⟨(Nat.le_of_ble_eq_true rfl), (Nat.le_of_ble_eq_true rfl)⟩ dX3_shortCircuit_64
      · exact E_sub (L' := [none, none, none, none]) True.intro (t_b_X3_shortCircuit_29 O Z h hf)
  · exact E_throw (pc := 8) O Z 2 70 84 74 "no such rail" XT_2_70_74 (by decide) hf dX3_shortCircuit_8 dX3_shortCircuit_11 dX3_shortCircuit_12 dX3_shortCircuit_14 dX3_shortCircuit_17 (Nat.le_of_ble_eq_true rfl) (Nat.le_of_ble_eq_true rfl) ⟨(Nat.le_of_ble_eq_true rfl), (Nat.le_of_ble_eq_true rfl)⟩
set_option maxHeartbeats 4000000 in
set_option maxRecDepth 100000 in
theorem t_b_X3_stick_27 {K : Cx} {out : XR} (O : Ok K yX3_stick.cls cX3_stick 4 (rmm 6 122 1 6)) (Z : OutX K (some .int) out) (h : MH) (hf : b_X3_stick_27 h = some out) : EE K (false, 0, 0) 27 [none, none, none, none] [] h := by
  unfold b_X3_stick_27 at hf
  exact E_throw (pc := 27) O Z 0 38 129 42 "how is not 0 to 2" XT_0_38_42 (by decide) hf dX3_stick_27 dX3_stick_30 dX3_stick_31 dX3_stick_33 dX3_stick_36 (Nat.le_of_ble_eq_true rfl) (Nat.le_of_ble_eq_true rfl) ⟨(Nat.le_of_ble_eq_true rfl), (Nat.le_of_ble_eq_true rfl)⟩
set_option maxHeartbeats 4000000 in
set_option maxRecDepth 100000 in
theorem t_X3_stick {g : Gx} {fr : Bool} {h : MH} {x0 x1 x2} {out : XR} (hf : f_X3_stick h x0 x1 x2 = some out) : MX g yX3_stick cX3_stick 4 (some .int) 6 122 fr [.ref x0, .int x1, .int x2] h out := by
  unfold f_X3_stick at hf
  refine MX_of (L := [some (.ref x0), some (.int x1), some (.int x2), none]) (by decide) (Nat.le_of_ble_eq_true rfl) rfl (fun K hK O Z => ?_)
  refine E_aload_n (pc := 0) O 0 dX3_stick_0 rfl rfl ?_
  refine E_iload_n (pc := 1) O 1 dX3_stick_1 rfl rfl ?_
  refine E_callV_iP (pc := 2) (S := []) O [.int x1] CV_RailSequence_67 rfl (fun r e => t_X3_isRail e) dX3_stick_2 hf rfl ⟨(Nat.le_of_ble_eq_true rfl), (Nat.le_of_ble_eq_true rfl)⟩ ⟨(Nat.le_of_ble_eq_true rfl), (Nat.le_of_ble_eq_true rfl)⟩ (Nat.le_of_ble_eq_true rfl) (fun v1 hf => ?_)
  refine E_if_ne (pc := 5) O 18 dX3_stick_5 (by decide) hf (fun hf => ?_) (fun hf => ?_)
  · refine E_iload_n (pc := 18) O 2 dX3_stick_18 rfl rfl ?_
    refine E_if_lt (pc := 19) O 27 dX3_stick_19 (by decide) hf (fun hf => ?_) (fun hf => ?_)
    · exact E_sub (L' := [none, none, none, none]) True.intro (t_b_X3_stick_27 O Z h hf)
    · refine E_iload_n (pc := 22) O 2 dX3_stick_22 rfl rfl ?_
      refine E_iconst (pc := 23) O (2 : Int32) dX3_stick_23 (by decide) ?_
      refine E_icmp_le (pc := 24) O 37 dX3_stick_24 (by decide) hf (fun hf => ?_) (fun hf => ?_)
      · refine E_aload_n (pc := 37) O 0 dX3_stick_37 rfl rfl ?_
        refine E_callV_v (pc := 38) (S := []) O [] CV_RailSequence_60 rfl (fun r e => t_X3_save e) dX3_stick_38 hf rfl ⟨(Nat.le_of_ble_eq_true rfl), (Nat.le_of_ble_eq_true rfl)⟩ ⟨(Nat.le_of_ble_eq_true rfl), (Nat.le_of_ble_eq_true rfl)⟩ (Nat.le_of_ble_eq_true rfl) (fun h2 hf => ?_)
        refine E_aload_n (pc := 41) O 0 dX3_stick_41 rfl rfl ?_
        refine E_getR (pc := 42) O FL_RailSequence_10 dX3_stick_42 hf (fun v3 hf => ?_)
        refine E_getR (pc := 45) O FL_RailSequence_131 dX3_stick_45 hf (fun v4 hf => ?_)
        refine E_iload_n (pc := 48) O 1 dX3_stick_48 rfl rfl ?_
        refine E_iaload (pc := 49) O dX3_stick_49 hf (fun v5 hf => ?_)
        refine E_istore_n (pc := 50) O 3 [some (.ref x0), some (.int x1), some (.int x2), some (.int v5)] dX3_stick_50 rfl (by decide) rfl rfl ?_
        refine E_aload_n (pc := 51) O 0 dX3_stick_51 rfl rfl ?_
        refine E_getR (pc := 52) O FL_RailSequence_10 dX3_stick_52 hf (fun v6 hf => ?_)
        refine E_getR (pc := 55) O FL_RailSequence_131 dX3_stick_55 hf (fun v7 hf => ?_)
        refine E_iload_n (pc := 58) O 1 dX3_stick_58 rfl rfl ?_
        refine E_iload_n (pc := 59) O 2 dX3_stick_59 rfl rfl ?_
        refine E_iastore (pc := 60) O dX3_stick_60 hf (fun h8 hf => ?_)
        refine E_iload_n (pc := 61) O 3 dX3_stick_61 rfl rfl ?_
        exact E_xret (pc := 62) O Z hf ⟨(Nat.le_of_ble_eq_true rfl), (Nat.le_of_ble_eq_true rfl)⟩ dX3_stick_62
      · exact E_sub (L' := [none, none, none, none]) True.intro (t_b_X3_stick_27 O Z h hf)
  · exact E_throw (pc := 8) O Z 2 70 84 74 "no such rail" XT_2_70_74 (by decide) hf dX3_stick_8 dX3_stick_11 dX3_stick_12 dX3_stick_14 dX3_stick_17 (Nat.le_of_ble_eq_true rfl) (Nat.le_of_ble_eq_true rfl) ⟨(Nat.le_of_ble_eq_true rfl), (Nat.le_of_ble_eq_true rfl)⟩
set_option maxHeartbeats 4000000 in
set_option maxRecDepth 100000 in
theorem t_b_X3_tick_12 {K : Cx} {out : XR} (O : Ok K yX3_tick.cls cX3_tick 4 (rmm 6 129 1 6)) (Z : OutX K (some .int) out) (h : MH) (hf : b_X3_tick_12 h = some out) : EE K (false, 0, 0) 12 [none, none, none, none] [] h := by
  unfold b_X3_tick_12 at hf
  exact E_throw (pc := 12) O Z 0 38 124 42 "ticks is out of range" XT_0_38_42 (by decide) hf dX3_tick_12 dX3_tick_15 dX3_tick_16 dX3_tick_18 dX3_tick_21 (Nat.le_of_ble_eq_true rfl) (Nat.le_of_ble_eq_true rfl) ⟨(Nat.le_of_ble_eq_true rfl), (Nat.le_of_ble_eq_true rfl)⟩
set_option maxHeartbeats 4000000 in
set_option maxRecDepth 100000 in
theorem t_b_X3_tick_55 {K : Cx} {out : XR} (O : Ok K yX3_tick.cls cX3_tick 4 (rmm 6 129 1 6)) (Z : OutX K (some .int) out) (rec55 : MH → Nat → Int32 → Int32 → Int32 → Option XR) (hr55 : ∀ (h : MH) (x0 : Nat) (x1 : Int32) (x2 : Int32) (x3 : Int32), rec55 h x0 x1 x2 x3 = some out → EE K (false, 0, 0) 55 [some (.ref x0), some (.int x1), some (.int x2), some (.int x3)] [] h) (h : MH) (x0 : Nat) (x1 : Int32) (x2 : Int32) (x3 : Int32) (hf : b_X3_tick_55 rec55 h x0 x1 x2 x3 = some out) : EE K (false, 0, 0) 55 [some (.ref x0), some (.int x1), some (.int x2), some (.int x3)] [] h := by
  unfold b_X3_tick_55 at hf
  refine E_iload_n (pc := 55) O 3 dX3_tick_55 rfl rfl ?_
  refine E_iload_n (pc := 56) O 1 dX3_tick_56 rfl rfl ?_
  refine E_icmp_ge (pc := 57) O 76 dX3_tick_57 (by decide) hf (fun hf => ?_) (fun hf => ?_)
  · refine E_iload_n (pc := 76) O 2 dX3_tick_76 rfl rfl ?_
    exact E_xret (pc := 77) O Z hf ⟨(Nat.le_of_ble_eq_true rfl), (Nat.le_of_ble_eq_true rfl)⟩ dX3_tick_77
  · refine E_iload_n (pc := 60) O 2 dX3_tick_60 rfl rfl ?_
    refine E_aload_n (pc := 61) O 0 dX3_tick_61 rfl rfl ?_
    refine E_getR (pc := 62) O FL_RailSequence_10 dX3_tick_62 hf (fun v1 hf => ?_)
    refine E_callV_i (pc := 65) (S := [.int x2]) O [] CV_RailSequence_139 rfl (fun r e => t_X1_passTick e) dX3_tick_65 hf rfl ⟨(Nat.le_of_ble_eq_true rfl), (Nat.le_of_ble_eq_true rfl)⟩ ⟨(Nat.le_of_ble_eq_true rfl), (Nat.le_of_ble_eq_true rfl)⟩ (Nat.le_of_ble_eq_true rfl) (fun p2 hf => ?_)
    refine E_iadd (pc := 68) O dX3_tick_68 ?_
    obtain ⟨v3, ev3, hf⟩ := ob hf
    have ev3 := os ev3
    rw [ev3]
    refine E_istore_n (pc := 69) O 2 [some (.ref x0), some (.int x1), some (.int v3), some (.int x3)] dX3_tick_69 rfl (by decide) rfl rfl ?_
    refine E_iinc (pc := 70) O (1 : Int32) [some (.ref x0), some (.int x1), some (.int v3), some (.int (x3 + (1 : Int32)))] dX3_tick_70 rfl (by decide) rfl (by decide) rfl ?_
    refine E_goto (pc := 73) O 55 dX3_tick_73 (by decide) ?_
    exact hr55 p2.2 x0 x1 v3 (x3 + (1 : Int32)) hf
theorem t_f_X3_tick_55 {K : Cx} {out : XR} (O : Ok K yX3_tick.cls cX3_tick 4 (rmm 6 129 1 6)) (Z : OutX K (some .int) out) : ∀ (n : Nat) (h : MH) (x0 : Nat) (x1 : Int32) (x2 : Int32) (x3 : Int32), f_X3_tick_55 n h x0 x1 x2 x3 = some out → EE K (false, 0, 0) 55 [some (.ref x0), some (.int x1), some (.int x2), some (.int x3)] [] h := by
  intro n
  induction n with
  | zero => intro h x0 x1 x2 x3 hf; cases hf
  | succ n ih => intro h x0 x1 x2 x3 hf; exact t_b_X3_tick_55 O Z _ ih h x0 x1 x2 x3 hf
set_option maxHeartbeats 4000000 in
set_option maxRecDepth 100000 in
theorem t_X3_tick {g : Gx} {fr : Bool} {h : MH} {x0 x1} {out : XR} (hf : f_X3_tick h x0 x1 = some out) : MX g yX3_tick cX3_tick 4 (some .int) 6 129 fr [.ref x0, .int x1] h out := by
  unfold f_X3_tick at hf
  refine MX_of (L := [some (.ref x0), some (.int x1), none, none]) (by decide) (Nat.le_of_ble_eq_true rfl) rfl (fun K hK O Z => ?_)
  refine E_iload_n (pc := 0) O 1 dX3_tick_0 rfl rfl ?_
  refine E_iconst (pc := 1) O (1 : Int32) dX3_tick_1 (by decide) ?_
  refine E_icmp_lt (pc := 2) O 12 dX3_tick_2 (by decide) hf (fun hf => ?_) (fun hf => ?_)
  · exact E_sub (L' := [none, none, none, none]) True.intro (t_b_X3_tick_12 O Z h hf)
  · refine E_iload_n (pc := 5) O 1 dX3_tick_5 rfl rfl ?_
    refine E_sipush (pc := 6) O (200 : Int32) dX3_tick_6 (by decide) ?_
    refine E_icmp_le (pc := 9) O 22 dX3_tick_9 (by decide) hf (fun hf => ?_) (fun hf => ?_)
    · refine E_aload_n (pc := 22) O 0 dX3_tick_22 rfl rfl ?_
      refine E_getR (pc := 23) O FL_RailSequence_10 dX3_tick_23 hf (fun v4 hf => ?_)
      refine E_getI (pc := 26) O FL_RailSequence_134 dX3_tick_26 hf (fun v5 hf => ?_)
      refine E_iload_n (pc := 29) O 1 dX3_tick_29 rfl rfl ?_
      refine E_iadd (pc := 30) O dX3_tick_30 ?_
      refine E_sipush (pc := 31) O (20000 : Int32) dX3_tick_31 (by decide) ?_
      refine E_icmp_le (pc := 34) O 47 dX3_tick_34 (by decide) hf (fun hf => ?_) (fun hf => ?_)
      · refine E_aload_n (pc := 47) O 0 dX3_tick_47 rfl rfl ?_
        refine E_callV_v (pc := 48) (S := []) O [] CV_RailSequence_60 rfl (fun r e => t_X3_save e) dX3_tick_48 hf rfl ⟨(Nat.le_of_ble_eq_true rfl), (Nat.le_of_ble_eq_true rfl)⟩ ⟨(Nat.le_of_ble_eq_true rfl), (Nat.le_of_ble_eq_true rfl)⟩ (Nat.le_of_ble_eq_true rfl) (fun h6 hf => ?_)
        refine E_iconst (pc := 51) O (0 : Int32) dX3_tick_51 (by decide) ?_
        refine E_istore_n (pc := 52) O 2 [some (.ref x0), some (.int x1), some (.int (0 : Int32)), none] dX3_tick_52 rfl (by decide) rfl rfl ?_
        refine E_iconst (pc := 53) O (0 : Int32) dX3_tick_53 (by decide) ?_
        refine E_istore_n (pc := 54) O 3 [some (.ref x0), some (.int x1), some (.int (0 : Int32)), some (.int (0 : Int32))] dX3_tick_54 rfl (by decide) rfl rfl ?_
        exact t_f_X3_tick_55 O Z FU h6 x0 x1 (0 : Int32) (0 : Int32) hf
      · exact E_throw (pc := 37) O Z 1 55 137 59 "the number of the tick would be above 20000" XT_1_55_59 (by decide) hf dX3_tick_37 dX3_tick_40 dX3_tick_41 dX3_tick_43 dX3_tick_46 (Nat.le_of_ble_eq_true rfl) (Nat.le_of_ble_eq_true rfl) ⟨(Nat.le_of_ble_eq_true rfl), (Nat.le_of_ble_eq_true rfl)⟩
    · exact E_sub (L' := [none, none, none, none]) True.intro (t_b_X3_tick_12 O Z h hf)
set_option maxHeartbeats 4000000 in
set_option maxRecDepth 100000 in
theorem t_b_X3_append_12 {K : Cx} {out : XR} (O : Ok K yX3_append.cls cX3_append 2 (rmm 6 82 1 6)) (Z : OutX K (some .int) out) (h : MH) (hf : b_X3_append_12 h = some out) : EE K (false, 0, 0) 12 [none, none] [] h := by
  unfold b_X3_append_12 at hf
  exact E_throw (pc := 12) O Z 0 38 143 42 "code is not 33 to 126" XT_0_38_42 (by decide) hf dX3_append_12 dX3_append_15 dX3_append_16 dX3_append_18 dX3_append_21 (Nat.le_of_ble_eq_true rfl) (Nat.le_of_ble_eq_true rfl) ⟨(Nat.le_of_ble_eq_true rfl), (Nat.le_of_ble_eq_true rfl)⟩
set_option maxHeartbeats 4000000 in
set_option maxRecDepth 100000 in
theorem t_X3_append {g : Gx} {fr : Bool} {h : MH} {x0 x1} {out : XR} (hf : f_X3_append h x0 x1 = some out) : MX g yX3_append cX3_append 2 (some .int) 6 82 fr [.ref x0, .int x1] h out := by
  unfold f_X3_append at hf
  refine MX_of (L := [some (.ref x0), some (.int x1)]) (by decide) (Nat.le_of_ble_eq_true rfl) rfl (fun K hK O Z => ?_)
  refine E_iload_n (pc := 0) O 1 dX3_append_0 rfl rfl ?_
  refine E_bipush (pc := 1) O (33 : Int32) dX3_append_1 (by decide) ?_
  refine E_icmp_lt (pc := 3) O 12 dX3_append_3 (by decide) hf (fun hf => ?_) (fun hf => ?_)
  · exact E_sub (L' := [none, none]) True.intro (t_b_X3_append_12 O Z h hf)
  · refine E_iload_n (pc := 6) O 1 dX3_append_6 rfl rfl ?_
    refine E_bipush (pc := 7) O (126 : Int32) dX3_append_7 (by decide) ?_
    refine E_icmp_le (pc := 9) O 22 dX3_append_9 (by decide) hf (fun hf => ?_) (fun hf => ?_)
    · refine E_aload_n (pc := 22) O 0 dX3_append_22 rfl rfl ?_
      refine E_getI (pc := 23) O FL_RailSequence_145 dX3_append_23 hf (fun v1 hf => ?_)
      refine E_bipush (pc := 26) O (60 : Int32) dX3_append_26 (by decide) ?_
      refine E_icmp_lt (pc := 28) O 41 dX3_append_28 (by decide) hf (fun hf => ?_) (fun hf => ?_)
      · refine E_aload_n (pc := 41) O 0 dX3_append_41 rfl rfl ?_
        refine E_getR (pc := 42) O FL_RailSequence_23 dX3_append_42 hf (fun v2 hf => ?_)
        refine E_aload_n (pc := 45) O 0 dX3_append_45 rfl rfl ?_
        refine E_getI (pc := 46) O FL_RailSequence_145 dX3_append_46 hf (fun v3 hf => ?_)
        refine E_iload_n (pc := 49) O 1 dX3_append_49 rfl rfl ?_
        refine E_iastore (pc := 50) O dX3_append_50 hf (fun h4 hf => ?_)
        refine E_aload_n (pc := 51) O 0 dX3_append_51 rfl rfl ?_
        refine E_dup (pc := 52) O dX3_append_52 rfl ?_
        refine E_getI (pc := 53) O FL_RailSequence_145 dX3_append_53 hf (fun v5 hf => ?_)
        refine E_iconst (pc := 56) O (1 : Int32) dX3_append_56 (by decide) ?_
        refine E_iadd (pc := 57) O dX3_append_57 ?_
        refine E_put (pc := 58) O FN_RailSequence_145 rfl rfl dX3_append_58 hf (fun h6 hf => ?_)
        refine E_aload_n (pc := 61) O 0 dX3_append_61 rfl rfl ?_
        refine E_getI (pc := 62) O FL_RailSequence_145 dX3_append_62 hf (fun v7 hf => ?_)
        exact E_xret (pc := 65) O Z hf ⟨(Nat.le_of_ble_eq_true rfl), (Nat.le_of_ble_eq_true rfl)⟩ dX3_append_65
      · exact E_throw (pc := 31) O Z 1 55 148 59 "the buffer has 60 characters" XT_1_55_59 (by decide) hf dX3_append_31 dX3_append_34 dX3_append_35 dX3_append_37 dX3_append_40 (Nat.le_of_ble_eq_true rfl) (Nat.le_of_ble_eq_true rfl) ⟨(Nat.le_of_ble_eq_true rfl), (Nat.le_of_ble_eq_true rfl)⟩
    · exact E_sub (L' := [none, none]) True.intro (t_b_X3_append_12 O Z h hf)
set_option maxHeartbeats 4000000 in
set_option maxRecDepth 100000 in
theorem t_X3_clearBuffer {g : Gx} {fr : Bool} {h : MH} {x0} {out : (Int32 × MH)} (hf : f_X3_clearBuffer h x0 = some out) : MM g yX3_clearBuffer cX3_clearBuffer 2 (some .int) 0 0 0 0 fr fr [.ref x0] h (some (.int out.1)) out.2 := by
  unfold f_X3_clearBuffer at hf
  refine MM_of (L := [some (.ref x0), none]) (by decide) (Nat.le_of_ble_eq_true rfl) rfl (fun K hK O Z hn => ?_)
  refine E_aload_n (pc := 0) O 0 dX3_clearBuffer_0 rfl rfl ?_
  refine E_getI (pc := 1) O FL_RailSequence_145 dX3_clearBuffer_1 hf (fun v1 hf => ?_)
  refine E_istore_n (pc := 4) O 1 [some (.ref x0), some (.int v1)] dX3_clearBuffer_4 rfl (by decide) rfl rfl ?_
  refine E_aload_n (pc := 5) O 0 dX3_clearBuffer_5 rfl rfl ?_
  refine E_iconst (pc := 6) O (0 : Int32) dX3_clearBuffer_6 (by decide) ?_
  refine E_put (pc := 7) O FN_RailSequence_145 rfl rfl dX3_clearBuffer_7 hf (fun h2 hf => ?_)
  refine E_iload_n (pc := 10) O 1 dX3_clearBuffer_10 rfl rfl ?_
  exact E_iret (pc := 11) O Z hf ⟨(Nat.le_of_ble_eq_true rfl), (Nat.le_of_ble_eq_true rfl)⟩ dX3_clearBuffer_11
set_option maxHeartbeats 4000000 in
set_option maxRecDepth 100000 in
theorem t_b_X3_readBuffer_9 {K : Cx} {fr : Bool} {out : (Int32 × MH)} (O : Ok K yX3_readBuffer.cls cX3_readBuffer 2 (rmm 3 62 0 0)) (Z : Out K (some .int) fr (some (.int out.1)) out.2) (rec9 : MH → Nat → Int32 → Option (Int32 × MH)) (hr9 : ∀ (h : MH) (x0 : Nat) (x1 : Int32), rec9 h x0 x1 = some out → EE K (fr, 0, 0) 9 [some (.ref x0), some (.int x1)] [] h) (h : MH) (x0 : Nat) (x1 : Int32) (hf : b_X3_readBuffer_9 rec9 h x0 x1 = some out) : EE K (fr, 0, 0) 9 [some (.ref x0), some (.int x1)] [] h := by
  unfold b_X3_readBuffer_9 at hf
  refine E_iload_n (pc := 9) O 1 dX3_readBuffer_9 rfl rfl ?_
  refine E_aload_n (pc := 10) O 0 dX3_readBuffer_10 rfl rfl ?_
  refine E_getI (pc := 11) O FL_RailSequence_145 dX3_readBuffer_11 hf (fun v1 hf => ?_)
  refine E_icmp_ge (pc := 14) O 41 dX3_readBuffer_14 (by decide) hf (fun hf => ?_) (fun hf => ?_)
  · refine E_aload_n (pc := 41) O 0 dX3_readBuffer_41 rfl rfl ?_
    refine E_getI (pc := 42) O FL_RailSequence_145 dX3_readBuffer_42 hf (fun v2 hf => ?_)
    exact E_iret (pc := 45) O Z hf ⟨(Nat.le_of_ble_eq_true rfl), (Nat.le_of_ble_eq_true rfl)⟩ dX3_readBuffer_45
  · refine E_aload_n (pc := 17) O 0 dX3_readBuffer_17 rfl rfl ?_
    refine E_getR (pc := 18) O FL_RailSequence_30 dX3_readBuffer_18 hf (fun v3 hf => ?_)
    refine E_aload_n (pc := 21) O 0 dX3_readBuffer_21 rfl rfl ?_
    refine E_getR (pc := 22) O FL_RailSequence_23 dX3_readBuffer_22 hf (fun v4 hf => ?_)
    refine E_iload_n (pc := 25) O 1 dX3_readBuffer_25 rfl rfl ?_
    refine E_iaload (pc := 26) O dX3_readBuffer_26 hf (fun v5 hf => ?_)
    refine E_callV_i (pc := 27) (S := []) O [.int v5] CV_RailSequence_266 rfl (fun r e => t_X2_take e) dX3_readBuffer_27 hf rfl ⟨(Nat.le_of_ble_eq_true rfl), (Nat.le_of_ble_eq_true rfl)⟩ ⟨(Nat.le_of_ble_eq_true rfl), (Nat.le_of_ble_eq_true rfl)⟩ (Nat.le_of_ble_eq_true rfl) (fun p6 hf => ?_)
    refine E_if_ne (pc := 30) O 35 dX3_readBuffer_30 (by decide) hf (fun hf => ?_) (fun hf => ?_)
    · refine E_iinc (pc := 35) O (1 : Int32) [some (.ref x0), some (.int (x1 + (1 : Int32)))] dX3_readBuffer_35 rfl (by decide) rfl (by decide) rfl ?_
      refine E_goto (pc := 38) O 9 dX3_readBuffer_38 (by decide) ?_
      exact hr9 p6.2 x0 (x1 + (1 : Int32)) hf
    · refine E_iload_n (pc := 33) O 1 dX3_readBuffer_33 rfl rfl ?_
      exact E_iret (pc := 34) O Z hf ⟨(Nat.le_of_ble_eq_true rfl), (Nat.le_of_ble_eq_true rfl)⟩ dX3_readBuffer_34
theorem t_f_X3_readBuffer_9 {K : Cx} {fr : Bool} {out : (Int32 × MH)} (O : Ok K yX3_readBuffer.cls cX3_readBuffer 2 (rmm 3 62 0 0)) (Z : Out K (some .int) fr (some (.int out.1)) out.2) : ∀ (n : Nat) (h : MH) (x0 : Nat) (x1 : Int32), f_X3_readBuffer_9 n h x0 x1 = some out → EE K (fr, 0, 0) 9 [some (.ref x0), some (.int x1)] [] h := by
  intro n
  induction n with
  | zero => intro h x0 x1 hf; cases hf
  | succ n ih => intro h x0 x1 hf; exact t_b_X3_readBuffer_9 O Z _ ih h x0 x1 hf
set_option maxHeartbeats 4000000 in
set_option maxRecDepth 100000 in
theorem t_X3_readBuffer {g : Gx} {fr : Bool} {h : MH} {x0} {out : (Int32 × MH)} (hf : f_X3_readBuffer h x0 = some out) : MM g yX3_readBuffer cX3_readBuffer 2 (some .int) 3 62 0 0 fr fr [.ref x0] h (some (.int out.1)) out.2 := by
  unfold f_X3_readBuffer at hf
  refine MM_of (L := [some (.ref x0), none]) (by decide) (Nat.le_of_ble_eq_true rfl) rfl (fun K hK O Z hn => ?_)
  refine E_aload_n (pc := 0) O 0 dX3_readBuffer_0 rfl rfl ?_
  refine E_getR (pc := 1) O FL_RailSequence_30 dX3_readBuffer_1 hf (fun v7 hf => ?_)
  refine E_callV_v (pc := 4) (S := []) O [] CV_RailSequence_263 rfl (fun r e => t_X2_begin e) dX3_readBuffer_4 hf rfl ⟨(Nat.le_of_ble_eq_true rfl), (Nat.le_of_ble_eq_true rfl)⟩ ⟨(Nat.le_of_ble_eq_true rfl), (Nat.le_of_ble_eq_true rfl)⟩ (Nat.le_of_ble_eq_true rfl) (fun h8 hf => ?_)
  refine E_iconst (pc := 7) O (0 : Int32) dX3_readBuffer_7 (by decide) ?_
  refine E_istore_n (pc := 8) O 1 [some (.ref x0), some (.int (0 : Int32))] dX3_readBuffer_8 rfl (by decide) rfl rfl ?_
  exact t_f_X3_readBuffer_9 O Z FU h8 x0 (0 : Int32) hf
set_option maxHeartbeats 4000000 in
set_option maxRecDepth 100000 in
theorem t_X3_firstError {g : Gx} {fr : Bool} {h : MH} {x0} {out : (Int32 × MH)} (hf : f_X3_firstError h x0 = some out) : MM g yX3_firstError cX3_firstError 1 (some .int) 4 83 0 0 fr fr [.ref x0] h (some (.int out.1)) out.2 := by
  unfold f_X3_firstError at hf
  refine MM_of (L := [some (.ref x0)]) (by decide) (Nat.le_of_ble_eq_true rfl) rfl (fun K hK O Z hn => ?_)
  refine E_aload_n (pc := 0) O 0 dX3_firstError_0 rfl rfl ?_
  refine E_callV_i (pc := 1) (S := []) O [] CV_RailSequence_150 rfl (fun r e => t_X3_readBuffer e) dX3_firstError_1 hf rfl ⟨(Nat.le_of_ble_eq_true rfl), (Nat.le_of_ble_eq_true rfl)⟩ ⟨(Nat.le_of_ble_eq_true rfl), (Nat.le_of_ble_eq_true rfl)⟩ (Nat.le_of_ble_eq_true rfl) (fun p1 hf => ?_)
  exact E_iret (pc := 4) O Z hf ⟨(Nat.le_of_ble_eq_true rfl), (Nat.le_of_ble_eq_true rfl)⟩ dX3_firstError_4
set_option maxHeartbeats 4000000 in
set_option maxRecDepth 100000 in
theorem t_b_X3_addReadRailToFuture_32 {K : Cx} {fr : Bool} {out : (Int32 × MH)} (O : Ok K yX3_addReadRailToFuture.cls cX3_addReadRailToFuture 1 (rmm 1 27 0 0)) (Z : Out K (some .boolean) fr (some (.int out.1)) out.2) (h : MH) (hf : b_X3_addReadRailToFuture_32 h = some out) : EE K (fr, 0, 0) 32 [none] [] h := by
  unfold b_X3_addReadRailToFuture_32 at hf
  refine E_iconst (pc := 32) O (0 : Int32) dX3_addReadRailToFuture_32 (by decide) ?_
  exact E_zret (pc := 33) O Z hf ⟨(Nat.le_of_ble_eq_true rfl), (Nat.le_of_ble_eq_true rfl)⟩ dX3_addReadRailToFuture_33
set_option maxHeartbeats 4000000 in
set_option maxRecDepth 100000 in
theorem t_X3_addReadRailToFuture {g : Gx} {fr : Bool} {h : MH} {x0} {out : (Int32 × MH)} (hf : f_X3_addReadRailToFuture h x0 = some out) : MM g yX3_addReadRailToFuture cX3_addReadRailToFuture 1 (some .boolean) 1 27 0 0 fr fr [.ref x0] h (some (.int out.1)) out.2 := by
  unfold f_X3_addReadRailToFuture at hf
  refine MM_of (L := [some (.ref x0)]) (by decide) (Nat.le_of_ble_eq_true rfl) rfl (fun K hK O Z hn => ?_)
  refine E_aload_n (pc := 0) O 0 dX3_addReadRailToFuture_0 rfl rfl ?_
  refine E_getR (pc := 1) O FL_RailSequence_16 dX3_addReadRailToFuture_1 hf (fun v1 hf => ?_)
  refine E_getI (pc := 4) O FL_RailSequence_51 dX3_addReadRailToFuture_4 hf (fun v2 hf => ?_)
  refine E_bipush (pc := 7) O (8 : Int32) dX3_addReadRailToFuture_7 (by decide) ?_
  refine E_icmp_ge (pc := 9) O 32 dX3_addReadRailToFuture_9 (by decide) hf (fun hf => ?_) (fun hf => ?_)
  · exact E_sub (L' := [none]) True.intro (t_b_X3_addReadRailToFuture_32 O Z h hf)
  · refine E_aload_n (pc := 12) O 0 dX3_addReadRailToFuture_12 rfl rfl ?_
    refine E_getR (pc := 13) O FL_RailSequence_16 dX3_addReadRailToFuture_13 hf (fun v3 hf => ?_)
    refine E_getI (pc := 16) O FL_RailSequence_51 dX3_addReadRailToFuture_16 hf (fun v4 hf => ?_)
    refine E_aload_n (pc := 19) O 0 dX3_addReadRailToFuture_19 rfl rfl ?_
    refine E_getR (pc := 20) O FL_RailSequence_30 dX3_addReadRailToFuture_20 hf (fun v5 hf => ?_)
    refine E_getI (pc := 23) O FL_RailSequence_272 dX3_addReadRailToFuture_23 hf (fun v6 hf => ?_)
    refine E_callS_iP (pc := 26) (S := []) O [.int v4, .int v6] CS_RailSequence_86 (fun r e => t_X3_areBelow e) dX3_addReadRailToFuture_26 hf rfl ⟨(Nat.le_of_ble_eq_true rfl), (Nat.le_of_ble_eq_true rfl)⟩ ⟨(Nat.le_of_ble_eq_true rfl), (Nat.le_of_ble_eq_true rfl)⟩ (Nat.le_of_ble_eq_true rfl) (fun v7 hf => ?_)
    refine E_if_ne (pc := 29) O 34 dX3_addReadRailToFuture_29 (by decide) hf (fun hf => ?_) (fun hf => ?_)
    · refine E_aload_n (pc := 34) O 0 dX3_addReadRailToFuture_34 rfl rfl ?_
      refine E_getR (pc := 35) O FL_RailSequence_16 dX3_addReadRailToFuture_35 hf (fun v8 hf => ?_)
      refine E_aload_n (pc := 38) O 0 dX3_addReadRailToFuture_38 rfl rfl ?_
      refine E_getR (pc := 39) O FL_RailSequence_30 dX3_addReadRailToFuture_39 hf (fun v9 hf => ?_)
      refine E_getR (pc := 42) O FL_RailSequence_274 dX3_addReadRailToFuture_42 hf (fun v10 hf => ?_)
      refine E_iconst (pc := 45) O (0 : Int32) dX3_addReadRailToFuture_45 (by decide) ?_
      refine E_iaload (pc := 46) O dX3_addReadRailToFuture_46 hf (fun v11 hf => ?_)
      refine E_aload_n (pc := 47) O 0 dX3_addReadRailToFuture_47 rfl rfl ?_
      refine E_getR (pc := 48) O FL_RailSequence_30 dX3_addReadRailToFuture_48 hf (fun v12 hf => ?_)
      refine E_getR (pc := 51) O FL_RailSequence_274 dX3_addReadRailToFuture_51 hf (fun v13 hf => ?_)
      refine E_iconst (pc := 54) O (1 : Int32) dX3_addReadRailToFuture_54 (by decide) ?_
      refine E_iaload (pc := 55) O dX3_addReadRailToFuture_55 hf (fun v14 hf => ?_)
      refine E_aload_n (pc := 56) O 0 dX3_addReadRailToFuture_56 rfl rfl ?_
      refine E_getR (pc := 57) O FL_RailSequence_30 dX3_addReadRailToFuture_57 hf (fun v15 hf => ?_)
      refine E_getR (pc := 60) O FL_RailSequence_274 dX3_addReadRailToFuture_60 hf (fun v16 hf => ?_)
      refine E_iconst (pc := 63) O (2 : Int32) dX3_addReadRailToFuture_63 (by decide) ?_
      refine E_iaload (pc := 64) O dX3_addReadRailToFuture_64 hf (fun v17 hf => ?_)
      refine E_aload_n (pc := 65) O 0 dX3_addReadRailToFuture_65 rfl rfl ?_
      refine E_getR (pc := 66) O FL_RailSequence_30 dX3_addReadRailToFuture_66 hf (fun v18 hf => ?_)
      refine E_getI (pc := 69) O FL_RailSequence_272 dX3_addReadRailToFuture_69 hf (fun v19 hf => ?_)
      refine E_callV_v (pc := 72) (S := []) O [.int v11, .int v14, .int v17, .int v19] CV_RailSequence_63 rfl (fun r e => t_X1_add e) dX3_addReadRailToFuture_72 hf rfl ⟨(Nat.le_of_ble_eq_true rfl), (Nat.le_of_ble_eq_true rfl)⟩ ⟨(Nat.le_of_ble_eq_true rfl), (Nat.le_of_ble_eq_true rfl)⟩ (Nat.le_of_ble_eq_true rfl) (fun h20 hf => ?_)
      refine E_iconst (pc := 75) O (1 : Int32) dX3_addReadRailToFuture_75 (by decide) ?_
      exact E_zret (pc := 76) O Z hf ⟨(Nat.le_of_ble_eq_true rfl), (Nat.le_of_ble_eq_true rfl)⟩ dX3_addReadRailToFuture_76
    · exact E_sub (L' := [none]) True.intro (t_b_X3_addReadRailToFuture_32 O Z h hf)
set_option maxHeartbeats 4000000 in
set_option maxRecDepth 100000 in
theorem t_b_X3_addTextToFuture_48 {K : Cx} {fr : Bool} {out : (Int32 × MH)} (O : Ok K yX3_addTextToFuture.cls cX3_addTextToFuture 2 (rmm 3 102 0 0)) (Z : Out K (some .boolean) fr (some (.int out.1)) out.2) (rec20 : MH → Nat → Int32 → Option (Int32 × MH)) (hr20 : ∀ (h : MH) (x0 : Nat) (x1 : Int32), rec20 h x0 x1 = some out → EE K (fr, 0, 0) 20 [some (.ref x0), some (.int x1)] [] h) (h : MH) (x0 : Nat) (x1 : Int32) (hf : b_X3_addTextToFuture_48 rec20 h x0 x1 = some out) : EE K (fr, 0, 0) 48 [some (.ref x0), some (.int x1)] [] h := by
  unfold b_X3_addTextToFuture_48 at hf
  refine E_aload_n (pc := 48) O 0 dX3_addTextToFuture_48 rfl rfl ?_
  refine E_getR (pc := 49) O FL_RailSequence_30 dX3_addTextToFuture_49 hf (fun v1 hf => ?_)
  refine E_aload_n (pc := 52) O 0 dX3_addTextToFuture_52 rfl rfl ?_
  refine E_getR (pc := 53) O FL_RailSequence_23 dX3_addTextToFuture_53 hf (fun v2 hf => ?_)
  refine E_iload_n (pc := 56) O 1 dX3_addTextToFuture_56 rfl rfl ?_
  refine E_iaload (pc := 57) O dX3_addTextToFuture_57 hf (fun v3 hf => ?_)
  refine E_callV_i (pc := 58) (S := []) O [.int v3] CV_RailSequence_266 rfl (fun r e => t_X2_take e) dX3_addTextToFuture_58 hf rfl ⟨(Nat.le_of_ble_eq_true rfl), (Nat.le_of_ble_eq_true rfl)⟩ ⟨(Nat.le_of_ble_eq_true rfl), (Nat.le_of_ble_eq_true rfl)⟩ (Nat.le_of_ble_eq_true rfl) (fun p4 hf => ?_)
  refine E_pop (pc := 61) O dX3_addTextToFuture_61 rfl ?_
  refine E_iinc (pc := 62) O (1 : Int32) [some (.ref x0), some (.int (x1 + (1 : Int32)))] dX3_addTextToFuture_62 rfl (by decide) rfl (by decide) rfl ?_
  refine E_goto (pc := 65) O 20 dX3_addTextToFuture_65 (by decide) ?_
  exact hr20 p4.2 x0 (x1 + (1 : Int32)) hf
set_option maxHeartbeats 4000000 in
set_option maxRecDepth 100000 in
theorem t_b_X3_addTextToFuture_20 {K : Cx} {fr : Bool} {out : (Int32 × MH)} (O : Ok K yX3_addTextToFuture.cls cX3_addTextToFuture 2 (rmm 3 102 0 0)) (Z : Out K (some .boolean) fr (some (.int out.1)) out.2) (rec20 : MH → Nat → Int32 → Option (Int32 × MH)) (hr20 : ∀ (h : MH) (x0 : Nat) (x1 : Int32), rec20 h x0 x1 = some out → EE K (fr, 0, 0) 20 [some (.ref x0), some (.int x1)] [] h) (h : MH) (x0 : Nat) (x1 : Int32) (hf : b_X3_addTextToFuture_20 rec20 h x0 x1 = some out) : EE K (fr, 0, 0) 20 [some (.ref x0), some (.int x1)] [] h := by
  unfold b_X3_addTextToFuture_20 at hf
  refine E_iload_n (pc := 20) O 1 dX3_addTextToFuture_20 rfl rfl ?_
  refine E_aload_n (pc := 21) O 0 dX3_addTextToFuture_21 rfl rfl ?_
  refine E_getI (pc := 22) O FL_RailSequence_145 dX3_addTextToFuture_22 hf (fun v5 hf => ?_)
  refine E_icmp_ge (pc := 25) O 68 dX3_addTextToFuture_25 (by decide) hf (fun hf => ?_) (fun hf => ?_)
  · refine E_aload_n (pc := 68) O 0 dX3_addTextToFuture_68 rfl rfl ?_
    refine E_callV_i (pc := 69) (S := []) O [] CV_RailSequence_269 rfl (fun r e => t_X3_addReadRailToFuture e) dX3_addTextToFuture_69 hf rfl ⟨(Nat.le_of_ble_eq_true rfl), (Nat.le_of_ble_eq_true rfl)⟩ ⟨(Nat.le_of_ble_eq_true rfl), (Nat.le_of_ble_eq_true rfl)⟩ (Nat.le_of_ble_eq_true rfl) (fun p6 hf => ?_)
    exact E_zret (pc := 72) O Z hf ⟨(Nat.le_of_ble_eq_true rfl), (Nat.le_of_ble_eq_true rfl)⟩ dX3_addTextToFuture_72
  · refine E_aload_n (pc := 28) O 0 dX3_addTextToFuture_28 rfl rfl ?_
    refine E_getR (pc := 29) O FL_RailSequence_23 dX3_addTextToFuture_29 hf (fun v7 hf => ?_)
    refine E_iload_n (pc := 32) O 1 dX3_addTextToFuture_32 rfl rfl ?_
    refine E_iaload (pc := 33) O dX3_addTextToFuture_33 hf (fun v8 hf => ?_)
    refine E_bipush (pc := 34) O (59 : Int32) dX3_addTextToFuture_34 (by decide) ?_
    refine E_icmp_ne (pc := 36) O 48 dX3_addTextToFuture_36 (by decide) hf (fun hf => ?_) (fun hf => ?_)
    · exact t_b_X3_addTextToFuture_48 O Z _ hr20 h x0 x1 hf
    · refine E_aload_n (pc := 39) O 0 dX3_addTextToFuture_39 rfl rfl ?_
      refine E_callV_i (pc := 40) (S := []) O [] CV_RailSequence_269 rfl (fun r e => t_X3_addReadRailToFuture e) dX3_addTextToFuture_40 hf rfl ⟨(Nat.le_of_ble_eq_true rfl), (Nat.le_of_ble_eq_true rfl)⟩ ⟨(Nat.le_of_ble_eq_true rfl), (Nat.le_of_ble_eq_true rfl)⟩ (Nat.le_of_ble_eq_true rfl) (fun p9 hf => ?_)
      refine E_if_ne (pc := 43) O 48 dX3_addTextToFuture_43 (by decide) hf (fun hf => ?_) (fun hf => ?_)
      · exact t_b_X3_addTextToFuture_48 O Z _ hr20 p9.2 x0 x1 hf
      · refine E_iconst (pc := 46) O (0 : Int32) dX3_addTextToFuture_46 (by decide) ?_
        exact E_zret (pc := 47) O Z hf ⟨(Nat.le_of_ble_eq_true rfl), (Nat.le_of_ble_eq_true rfl)⟩ dX3_addTextToFuture_47
theorem t_f_X3_addTextToFuture_20 {K : Cx} {fr : Bool} {out : (Int32 × MH)} (O : Ok K yX3_addTextToFuture.cls cX3_addTextToFuture 2 (rmm 3 102 0 0)) (Z : Out K (some .boolean) fr (some (.int out.1)) out.2) : ∀ (n : Nat) (h : MH) (x0 : Nat) (x1 : Int32), f_X3_addTextToFuture_20 n h x0 x1 = some out → EE K (fr, 0, 0) 20 [some (.ref x0), some (.int x1)] [] h := by
  intro n
  induction n with
  | zero => intro h x0 x1 hf; cases hf
  | succ n ih => intro h x0 x1 hf; exact t_b_X3_addTextToFuture_20 O Z _ ih h x0 x1 hf
set_option maxHeartbeats 4000000 in
set_option maxRecDepth 100000 in
theorem t_X3_addTextToFuture {g : Gx} {fr : Bool} {h : MH} {x0} {out : (Int32 × MH)} (hf : f_X3_addTextToFuture h x0 = some out) : MM g yX3_addTextToFuture cX3_addTextToFuture 2 (some .boolean) 3 102 0 0 fr fr [.ref x0] h (some (.int out.1)) out.2 := by
  unfold f_X3_addTextToFuture at hf
  refine MM_of (L := [some (.ref x0), none]) (by decide) (Nat.le_of_ble_eq_true rfl) rfl (fun K hK O Z hn => ?_)
  refine E_aload_n (pc := 0) O 0 dX3_addTextToFuture_0 rfl rfl ?_
  refine E_getR (pc := 1) O FL_RailSequence_16 dX3_addTextToFuture_1 hf (fun v10 hf => ?_)
  refine E_aload_n (pc := 4) O 0 dX3_addTextToFuture_4 rfl rfl ?_
  refine E_getR (pc := 5) O FL_RailSequence_10 dX3_addTextToFuture_5 hf (fun v11 hf => ?_)
  refine E_callV_v (pc := 8) (S := []) O [.ref v11] CV_RailSequence_164 rfl (fun r e => t_X1_copyFrom e) dX3_addTextToFuture_8 hf rfl ⟨(Nat.le_of_ble_eq_true rfl), (Nat.le_of_ble_eq_true rfl)⟩ ⟨(Nat.le_of_ble_eq_true rfl), (Nat.le_of_ble_eq_true rfl)⟩ (Nat.le_of_ble_eq_true rfl) (fun h12 hf => ?_)
  refine E_aload_n (pc := 11) O 0 dX3_addTextToFuture_11 rfl rfl ?_
  refine E_getR (pc := 12) O FL_RailSequence_30 dX3_addTextToFuture_12 hf (fun v13 hf => ?_)
  refine E_callV_v (pc := 15) (S := []) O [] CV_RailSequence_263 rfl (fun r e => t_X2_begin e) dX3_addTextToFuture_15 hf rfl ⟨(Nat.le_of_ble_eq_true rfl), (Nat.le_of_ble_eq_true rfl)⟩ ⟨(Nat.le_of_ble_eq_true rfl), (Nat.le_of_ble_eq_true rfl)⟩ (Nat.le_of_ble_eq_true rfl) (fun h14 hf => ?_)
  refine E_iconst (pc := 18) O (0 : Int32) dX3_addTextToFuture_18 (by decide) ?_
  refine E_istore_n (pc := 19) O 1 [some (.ref x0), some (.int (0 : Int32))] dX3_addTextToFuture_19 rfl (by decide) rfl rfl ?_
  exact t_f_X3_addTextToFuture_20 O Z FU h14 x0 (0 : Int32) hf
