/-! walks: the machine does what the plain functions say: written by program -/
set_option maxHeartbeats 4000000 in
set_option maxRecDepth 100000 in
theorem t_X3_init {g : Gx} {h : MH} {x0} {out : MH} (hf : f_X3_init h x0 = some out) : MM g yX3_init cX3_init 2 none 3 100 132 2153 true true [.ref x0] h none out := by
  unfold f_X3_init at hf
  refine MM_of (L := [some (.ref x0), none]) (by decide) (Nat.le_of_ble_eq_true rfl) rfl (fun K hK O Z hn => ?_)
  refine E_aload_n (pc := 0) O 0 dX3_init_0 rfl rfl ?_
  refine E_objInit (pc := 1) O (aw1 18 (by decide +kernel) rfl) (aw1 19 (by decide +kernel) rfl) (aw1 20 (by decide +kernel) rfl) (Nat.le_of_ble_eq_true rfl) (Nat.le_of_ble_eq_true rfl) dX3_init_1 ?_
  refine E_aload_n (pc := 4) O 0 dX3_init_4 rfl rfl ?_
  refine E_new (pc := 5) O NW_RailSequence_7 dX3_init_5 hf ⟨(Nat.le_of_ble_eq_true rfl), (Nat.le_of_ble_eq_true rfl)⟩ (fun h1 hf => ?_)
  show EE K (true, 1, 18) _ _ _ _
  refine E_dup (pc := 8) O dX3_init_8 rfl ?_
  refine E_callIN (pc := 9) O CN_RailSequence_9 (fun r e => t_X1_init e) dX3_init_9 hf ⟨(Nat.le_of_ble_eq_true rfl), (Nat.le_of_ble_eq_true rfl)⟩ ⟨(Nat.le_of_ble_eq_true rfl), (Nat.le_of_ble_eq_true rfl)⟩ (Nat.le_of_ble_eq_true rfl) (fun h2 hf => ?_)
  show EE K (true, 16, 260) _ _ _ _
  refine E_putF (pc := 12) O FF_RailSequence_10 hn rfl rfl dX3_init_12 hf (fun h3 hf => ?_)
  refine E_aload_n (pc := 15) O 0 dX3_init_15 rfl rfl ?_
  refine E_new (pc := 16) O NW_RailSequence_7 dX3_init_16 hf ⟨(Nat.le_of_ble_eq_true rfl), (Nat.le_of_ble_eq_true rfl)⟩ (fun h4 hf => ?_)
  show EE K (true, 17, 278) _ _ _ _
  refine E_dup (pc := 19) O dX3_init_19 rfl ?_
  refine E_callIN (pc := 20) O CN_RailSequence_9 (fun r e => t_X1_init e) dX3_init_20 hf ⟨(Nat.le_of_ble_eq_true rfl), (Nat.le_of_ble_eq_true rfl)⟩ ⟨(Nat.le_of_ble_eq_true rfl), (Nat.le_of_ble_eq_true rfl)⟩ (Nat.le_of_ble_eq_true rfl) (fun h5 hf => ?_)
  show EE K (true, 32, 520) _ _ _ _
  refine E_putF (pc := 23) O FF_RailSequence_16 hn rfl rfl dX3_init_23 hf (fun h6 hf => ?_)
  refine E_aload_n (pc := 26) O 0 dX3_init_26 rfl rfl ?_
  refine E_bipush (pc := 27) O (6 : Int32) dX3_init_27 (by decide) ?_
  refine E_newaR (pc := 29) O (aw1 21 (by decide +kernel) rfl) dX3_init_29 (by decide) (by decide) (Nat.le_of_ble_eq_true rfl) hf ⟨(Nat.le_of_ble_eq_true rfl), (Nat.le_of_ble_eq_true rfl)⟩ (fun h7 hf => ?_)
  show EE K (true, 33, 526) _ _ _ _
  refine E_putF (pc := 32) O FF_RailSequence_19 hn rfl rfl dX3_init_32 hf (fun h8 hf => ?_)
  refine E_aload_n (pc := 35) O 0 dX3_init_35 rfl rfl ?_
  refine E_bipush (pc := 36) O (60 : Int32) dX3_init_36 (by decide) ?_
  refine E_newaI (pc := 38) O (aw1 41 (by decide +kernel) rfl) dX3_init_38 (by decide) (by decide) (Nat.le_of_ble_eq_true rfl) hf ⟨(Nat.le_of_ble_eq_true rfl), (Nat.le_of_ble_eq_true rfl)⟩ (fun h9 hf => ?_)
  show EE K (true, 34, 586) _ _ _ _
  refine E_putF (pc := 40) O FF_RailSequence_23 hn rfl rfl dX3_init_40 hf (fun h10 hf => ?_)
  refine E_aload_n (pc := 43) O 0 dX3_init_43 rfl rfl ?_
  refine E_new (pc := 44) O NW_RailSequence_27 dX3_init_44 hf ⟨(Nat.le_of_ble_eq_true rfl), (Nat.le_of_ble_eq_true rfl)⟩ (fun h11 hf => ?_)
  show EE K (true, 35, 590) _ _ _ _
  refine E_dup (pc := 47) O dX3_init_47 rfl ?_
  refine E_callIN (pc := 48) O CN_RailSequence_29 (fun r e => t_X2_init e) dX3_init_48 hf ⟨(Nat.le_of_ble_eq_true rfl), (Nat.le_of_ble_eq_true rfl)⟩ ⟨(Nat.le_of_ble_eq_true rfl), (Nat.le_of_ble_eq_true rfl)⟩ (Nat.le_of_ble_eq_true rfl) (fun h12 hf => ?_)
  show EE K (true, 36, 593) _ _ _ _
  refine E_putF (pc := 51) O FF_RailSequence_30 hn rfl rfl dX3_init_51 hf (fun h13 hf => ?_)
  refine E_iconst (pc := 54) O (0 : Int32) dX3_init_54 (by decide) ?_
  refine E_istore_n (pc := 55) O 1 [some (.ref x0), some (.int (0 : Int32))] dX3_init_55 rfl (by decide) rfl rfl ?_
  refine E_iload_n (pc := 56) O 1 dX3_init_56 rfl rfl ?_
  refine E_bipush (pc := 57) O (6 : Int32) dX3_init_57 (by decide) ?_
  refine E_icmp_geF (pc := 59) O 81 dX3_init_59 (by decide) (by decide) ?_
  refine E_aload_n (pc := 62) O 0 dX3_init_62 rfl rfl ?_
  refine E_getR (pc := 63) O FL_RailSequence_19 dX3_init_63 hf (fun v14 hf => ?_)
  refine E_iload_n (pc := 66) O 1 dX3_init_66 rfl rfl ?_
  refine E_new (pc := 67) O NW_RailSequence_7 dX3_init_67 hf ⟨(Nat.le_of_ble_eq_true rfl), (Nat.le_of_ble_eq_true rfl)⟩ (fun h15 hf => ?_)
  show EE K (true, 37, 611) _ _ _ _
  refine E_dup (pc := 70) O dX3_init_70 rfl ?_
  refine E_callIN (pc := 71) O CN_RailSequence_9 (fun r e => t_X1_init e) dX3_init_71 hf ⟨(Nat.le_of_ble_eq_true rfl), (Nat.le_of_ble_eq_true rfl)⟩ ⟨(Nat.le_of_ble_eq_true rfl), (Nat.le_of_ble_eq_true rfl)⟩ (Nat.le_of_ble_eq_true rfl) (fun h16 hf => ?_)
  show EE K (true, 52, 853) _ _ _ _
  refine E_aastore (pc := 74) O dX3_init_74 hf (fun h17 hf => ?_)
  refine E_iinc (pc := 75) O (1 : Int32) [some (.ref x0), some (.int (1 : Int32))] dX3_init_75 rfl (by decide) rfl (by decide) (by rw [show (0 : Int32) + 1 = 1 from by decide]; rfl) ?_
  refine E_goto (pc := 78) O 56 dX3_init_78 (by decide) ?_
  refine E_iload_n (pc := 56) O 1 dX3_init_56 rfl rfl ?_
  refine E_bipush (pc := 57) O (6 : Int32) dX3_init_57 (by decide) ?_
  refine E_icmp_geF (pc := 59) O 81 dX3_init_59 (by decide) (by decide) ?_
  refine E_aload_n (pc := 62) O 0 dX3_init_62 rfl rfl ?_
  refine E_getR (pc := 63) O FL_RailSequence_19 dX3_init_63 hf (fun v18 hf => ?_)
  refine E_iload_n (pc := 66) O 1 dX3_init_66 rfl rfl ?_
  refine E_new (pc := 67) O NW_RailSequence_7 dX3_init_67 hf ⟨(Nat.le_of_ble_eq_true rfl), (Nat.le_of_ble_eq_true rfl)⟩ (fun h19 hf => ?_)
  show EE K (true, 53, 871) _ _ _ _
  refine E_dup (pc := 70) O dX3_init_70 rfl ?_
  refine E_callIN (pc := 71) O CN_RailSequence_9 (fun r e => t_X1_init e) dX3_init_71 hf ⟨(Nat.le_of_ble_eq_true rfl), (Nat.le_of_ble_eq_true rfl)⟩ ⟨(Nat.le_of_ble_eq_true rfl), (Nat.le_of_ble_eq_true rfl)⟩ (Nat.le_of_ble_eq_true rfl) (fun h20 hf => ?_)
  show EE K (true, 68, 1113) _ _ _ _
  refine E_aastore (pc := 74) O dX3_init_74 hf (fun h21 hf => ?_)
  refine E_iinc (pc := 75) O (1 : Int32) [some (.ref x0), some (.int (2 : Int32))] dX3_init_75 rfl (by decide) rfl (by decide) (by rw [show (1 : Int32) + 1 = 2 from by decide]; rfl) ?_
  refine E_goto (pc := 78) O 56 dX3_init_78 (by decide) ?_
  refine E_iload_n (pc := 56) O 1 dX3_init_56 rfl rfl ?_
  refine E_bipush (pc := 57) O (6 : Int32) dX3_init_57 (by decide) ?_
  refine E_icmp_geF (pc := 59) O 81 dX3_init_59 (by decide) (by decide) ?_
  refine E_aload_n (pc := 62) O 0 dX3_init_62 rfl rfl ?_
  refine E_getR (pc := 63) O FL_RailSequence_19 dX3_init_63 hf (fun v22 hf => ?_)
  refine E_iload_n (pc := 66) O 1 dX3_init_66 rfl rfl ?_
  refine E_new (pc := 67) O NW_RailSequence_7 dX3_init_67 hf ⟨(Nat.le_of_ble_eq_true rfl), (Nat.le_of_ble_eq_true rfl)⟩ (fun h23 hf => ?_)
  show EE K (true, 69, 1131) _ _ _ _
  refine E_dup (pc := 70) O dX3_init_70 rfl ?_
  refine E_callIN (pc := 71) O CN_RailSequence_9 (fun r e => t_X1_init e) dX3_init_71 hf ⟨(Nat.le_of_ble_eq_true rfl), (Nat.le_of_ble_eq_true rfl)⟩ ⟨(Nat.le_of_ble_eq_true rfl), (Nat.le_of_ble_eq_true rfl)⟩ (Nat.le_of_ble_eq_true rfl) (fun h24 hf => ?_)
  show EE K (true, 84, 1373) _ _ _ _
  refine E_aastore (pc := 74) O dX3_init_74 hf (fun h25 hf => ?_)
  refine E_iinc (pc := 75) O (1 : Int32) [some (.ref x0), some (.int (3 : Int32))] dX3_init_75 rfl (by decide) rfl (by decide) (by rw [show (2 : Int32) + 1 = 3 from by decide]; rfl) ?_
  refine E_goto (pc := 78) O 56 dX3_init_78 (by decide) ?_
  refine E_iload_n (pc := 56) O 1 dX3_init_56 rfl rfl ?_
  refine E_bipush (pc := 57) O (6 : Int32) dX3_init_57 (by decide) ?_
  refine E_icmp_geF (pc := 59) O 81 dX3_init_59 (by decide) (by decide) ?_
  refine E_aload_n (pc := 62) O 0 dX3_init_62 rfl rfl ?_
  refine E_getR (pc := 63) O FL_RailSequence_19 dX3_init_63 hf (fun v26 hf => ?_)
  refine E_iload_n (pc := 66) O 1 dX3_init_66 rfl rfl ?_
  refine E_new (pc := 67) O NW_RailSequence_7 dX3_init_67 hf ⟨(Nat.le_of_ble_eq_true rfl), (Nat.le_of_ble_eq_true rfl)⟩ (fun h27 hf => ?_)
  show EE K (true, 85, 1391) _ _ _ _
  refine E_dup (pc := 70) O dX3_init_70 rfl ?_
  refine E_callIN (pc := 71) O CN_RailSequence_9 (fun r e => t_X1_init e) dX3_init_71 hf ⟨(Nat.le_of_ble_eq_true rfl), (Nat.le_of_ble_eq_true rfl)⟩ ⟨(Nat.le_of_ble_eq_true rfl), (Nat.le_of_ble_eq_true rfl)⟩ (Nat.le_of_ble_eq_true rfl) (fun h28 hf => ?_)
  show EE K (true, 100, 1633) _ _ _ _
  refine E_aastore (pc := 74) O dX3_init_74 hf (fun h29 hf => ?_)
  refine E_iinc (pc := 75) O (1 : Int32) [some (.ref x0), some (.int (4 : Int32))] dX3_init_75 rfl (by decide) rfl (by decide) (by rw [show (3 : Int32) + 1 = 4 from by decide]; rfl) ?_
  refine E_goto (pc := 78) O 56 dX3_init_78 (by decide) ?_
  refine E_iload_n (pc := 56) O 1 dX3_init_56 rfl rfl ?_
  refine E_bipush (pc := 57) O (6 : Int32) dX3_init_57 (by decide) ?_
  refine E_icmp_geF (pc := 59) O 81 dX3_init_59 (by decide) (by decide) ?_
  refine E_aload_n (pc := 62) O 0 dX3_init_62 rfl rfl ?_
  refine E_getR (pc := 63) O FL_RailSequence_19 dX3_init_63 hf (fun v30 hf => ?_)
  refine E_iload_n (pc := 66) O 1 dX3_init_66 rfl rfl ?_
  refine E_new (pc := 67) O NW_RailSequence_7 dX3_init_67 hf ⟨(Nat.le_of_ble_eq_true rfl), (Nat.le_of_ble_eq_true rfl)⟩ (fun h31 hf => ?_)
  show EE K (true, 101, 1651) _ _ _ _
  refine E_dup (pc := 70) O dX3_init_70 rfl ?_
  refine E_callIN (pc := 71) O CN_RailSequence_9 (fun r e => t_X1_init e) dX3_init_71 hf ⟨(Nat.le_of_ble_eq_true rfl), (Nat.le_of_ble_eq_true rfl)⟩ ⟨(Nat.le_of_ble_eq_true rfl), (Nat.le_of_ble_eq_true rfl)⟩ (Nat.le_of_ble_eq_true rfl) (fun h32 hf => ?_)
  show EE K (true, 116, 1893) _ _ _ _
  refine E_aastore (pc := 74) O dX3_init_74 hf (fun h33 hf => ?_)
  refine E_iinc (pc := 75) O (1 : Int32) [some (.ref x0), some (.int (5 : Int32))] dX3_init_75 rfl (by decide) rfl (by decide) (by rw [show (4 : Int32) + 1 = 5 from by decide]; rfl) ?_
  refine E_goto (pc := 78) O 56 dX3_init_78 (by decide) ?_
  refine E_iload_n (pc := 56) O 1 dX3_init_56 rfl rfl ?_
  refine E_bipush (pc := 57) O (6 : Int32) dX3_init_57 (by decide) ?_
  refine E_icmp_geF (pc := 59) O 81 dX3_init_59 (by decide) (by decide) ?_
  refine E_aload_n (pc := 62) O 0 dX3_init_62 rfl rfl ?_
  refine E_getR (pc := 63) O FL_RailSequence_19 dX3_init_63 hf (fun v34 hf => ?_)
  refine E_iload_n (pc := 66) O 1 dX3_init_66 rfl rfl ?_
  refine E_new (pc := 67) O NW_RailSequence_7 dX3_init_67 hf ⟨(Nat.le_of_ble_eq_true rfl), (Nat.le_of_ble_eq_true rfl)⟩ (fun h35 hf => ?_)
  show EE K (true, 117, 1911) _ _ _ _
  refine E_dup (pc := 70) O dX3_init_70 rfl ?_
  refine E_callIN (pc := 71) O CN_RailSequence_9 (fun r e => t_X1_init e) dX3_init_71 hf ⟨(Nat.le_of_ble_eq_true rfl), (Nat.le_of_ble_eq_true rfl)⟩ ⟨(Nat.le_of_ble_eq_true rfl), (Nat.le_of_ble_eq_true rfl)⟩ (Nat.le_of_ble_eq_true rfl) (fun h36 hf => ?_)
  show EE K (true, 132, 2153) _ _ _ _
  refine E_aastore (pc := 74) O dX3_init_74 hf (fun h37 hf => ?_)
  refine E_iinc (pc := 75) O (1 : Int32) [some (.ref x0), some (.int (6 : Int32))] dX3_init_75 rfl (by decide) rfl (by decide) (by rw [show (5 : Int32) + 1 = 6 from by decide]; rfl) ?_
  refine E_goto (pc := 78) O 56 dX3_init_78 (by decide) ?_
  refine E_iload_n (pc := 56) O 1 dX3_init_56 rfl rfl ?_
  refine E_bipush (pc := 57) O (6 : Int32) dX3_init_57 (by decide) ?_
  refine E_icmp_geT (pc := 59) O 81 dX3_init_59 (by decide) (by decide) ?_
  exact E_vret (pc := 81) O Z hf ⟨(Nat.le_of_ble_eq_true rfl), (Nat.le_of_ble_eq_true rfl)⟩ dX3_init_81
set_option maxHeartbeats 4000000 in
set_option maxRecDepth 100000 in
theorem t_b_X3_isInRange_23 {K : Cx} {fr : Bool} {out : Int32} {h : MH} (O : Ok K yX3_isInRange.cls cX3_isInRange 2 (rmm 0 0 0 0)) (Z : Out K (some .boolean) fr (some (.int out)) h) (s0 : Int32) (hf : b_X3_isInRange_23 h s0 = some out) : EE K (fr, 0, 0) 23 [none, none] [.int s0] h := by
  unfold b_X3_isInRange_23 at hf
  exact E_zretP (pc := 23) O Z hf ⟨(Nat.le_of_ble_eq_true rfl), (Nat.le_of_ble_eq_true rfl)⟩ dX3_isInRange_23
set_option maxHeartbeats 4000000 in
set_option maxRecDepth 100000 in
theorem t_b_X3_isInRange_22 {K : Cx} {fr : Bool} {out : Int32} {h : MH} (O : Ok K yX3_isInRange.cls cX3_isInRange 2 (rmm 0 0 0 0)) (Z : Out K (some .boolean) fr (some (.int out)) h)  (hf : b_X3_isInRange_22 h  = some out) : EE K (fr, 0, 0) 22 [none, none] [] h := by
  unfold b_X3_isInRange_22 at hf
  refine E_iconst (pc := 22) O (0 : Int32) dX3_isInRange_22 (by decide) ?_
  exact t_b_X3_isInRange_23 O Z (0 : Int32) hf
set_option maxHeartbeats 4000000 in
set_option maxRecDepth 100000 in
theorem t_X3_isInRange {g : Gx} {fr : Bool} {h : MH} {x0 x1} {out : Int32} (hf : f_X3_isInRange h x0 x1 = some out) : MM g yX3_isInRange cX3_isInRange 2 (some .boolean) 0 0 0 0 fr fr [.int x0, .int x1] h (some (.int out)) h := by
  unfold f_X3_isInRange at hf
  refine MM_of (L := [some (.int x0), some (.int x1)]) (by decide) (Nat.le_of_ble_eq_true rfl) rfl (fun K hK O Z hn => ?_)
  refine E_iload_n (pc := 0) O 1 dX3_isInRange_0 rfl rfl ?_
  refine E_getsLEAST (pc := 1) O (aw2 228 (by decide +kernel) rfl) dX3_isInRange_1 ?_
  refine E_iload_n (pc := 4) O 0 dX3_isInRange_4 rfl rfl ?_
  refine E_ialoadRO (pc := 5) (i := 1) O (by decide) rfl dX3_isInRange_5 hf (fun v1 hf => ?_)
  refine E_icmp_lt (pc := 6) O 22 dX3_isInRange_6 (by decide) hf (fun hf => ?_) (fun hf => ?_)
  · exact E_sub (L' := [none, none]) True.intro (t_b_X3_isInRange_22 O Z  hf)
  · refine E_iload_n (pc := 9) O 1 dX3_isInRange_9 rfl rfl ?_
    refine E_getsMOST (pc := 10) O (aw2 229 (by decide +kernel) rfl) dX3_isInRange_10 ?_
    refine E_iload_n (pc := 13) O 0 dX3_isInRange_13 rfl rfl ?_
    refine E_ialoadRO (pc := 14) (i := 2) O (by decide) rfl dX3_isInRange_14 hf (fun v2 hf => ?_)
    refine E_icmp_gt (pc := 15) O 22 dX3_isInRange_15 (by decide) hf (fun hf => ?_) (fun hf => ?_)
    · exact E_sub (L' := [none, none]) True.intro (t_b_X3_isInRange_22 O Z  hf)
    · refine E_iconst (pc := 18) O (1 : Int32) dX3_isInRange_18 (by decide) ?_
      refine E_goto (pc := 19) O 23 dX3_isInRange_19 (by decide) ?_
      exact E_sub (L' := [none, none]) True.intro (t_b_X3_isInRange_23 O Z (1 : Int32) hf)
set_option maxHeartbeats 4000000 in
set_option maxRecDepth 100000 in
theorem t_b_X3_areBelow_17 {K : Cx} {fr : Bool} {out : Int32} {h : MH} (O : Ok K yX3_areBelow.cls cX3_areBelow 2 (rmm 0 0 0 0)) (Z : Out K (some .boolean) fr (some (.int out)) h) (s0 : Int32) (hf : b_X3_areBelow_17 h s0 = some out) : EE K (fr, 0, 0) 17 [none, none] [.int s0] h := by
  unfold b_X3_areBelow_17 at hf
  exact E_zretP (pc := 17) O Z hf ⟨(Nat.le_of_ble_eq_true rfl), (Nat.le_of_ble_eq_true rfl)⟩ dX3_areBelow_17
set_option maxHeartbeats 4000000 in
set_option maxRecDepth 100000 in
theorem t_X3_areBelow {g : Gx} {fr : Bool} {h : MH} {x0 x1} {out : Int32} (hf : f_X3_areBelow h x0 x1 = some out) : MM g yX3_areBelow cX3_areBelow 2 (some .boolean) 0 0 0 0 fr fr [.int x0, .int x1] h (some (.int out)) h := by
  unfold f_X3_areBelow at hf
  refine MM_of (L := [some (.int x0), some (.int x1)]) (by decide) (Nat.le_of_ble_eq_true rfl) rfl (fun K hK O Z hn => ?_)
  refine E_iload_n (pc := 0) O 1 dX3_areBelow_0 rfl rfl ?_
  refine E_iconst (pc := 1) O (1 : Int32) dX3_areBelow_1 (by decide) ?_
  refine E_iload_n (pc := 2) O 0 dX3_areBelow_2 rfl rfl ?_
  refine E_ishl (pc := 3) O dX3_areBelow_3 ?_
  refine E_iconst (pc := 4) O (1 : Int32) dX3_areBelow_4 (by decide) ?_
  refine E_isub (pc := 5) O dX3_areBelow_5 ?_
  refine E_iconst (pc := 6) O (-1 : Int32) dX3_areBelow_6 (by decide) ?_
  refine E_ixor (pc := 7) O dX3_areBelow_7 ?_
  refine E_iand (pc := 8) O dX3_areBelow_8 ?_
  refine E_if_ne (pc := 9) O 16 dX3_areBelow_9 (by decide) hf (fun hf => ?_) (fun hf => ?_)
  · refine E_iconst (pc := 16) O (0 : Int32) dX3_areBelow_16 (by decide) ?_
    exact E_sub (L' := [none, none]) True.intro (t_b_X3_areBelow_17 O Z (0 : Int32) hf)
  · refine E_iconst (pc := 12) O (1 : Int32) dX3_areBelow_12 (by decide) ?_
    refine E_goto (pc := 13) O 17 dX3_areBelow_13 (by decide) ?_
    exact E_sub (L' := [none, none]) True.intro (t_b_X3_areBelow_17 O Z (1 : Int32) hf)
set_option maxHeartbeats 4000000 in
set_option maxRecDepth 100000 in
theorem t_X3_areRails {g : Gx} {fr : Bool} {h : MH} {x0 x1} {out : Int32} (hf : f_X3_areRails h x0 x1 = some out) : MM g yX3_areRails cX3_areRails 2 (some .boolean) 1 21 0 0 fr fr [.ref x0, .int x1] h (some (.int out)) h := by
  unfold f_X3_areRails at hf
  refine MM_of (L := [some (.ref x0), some (.int x1)]) (by decide) (Nat.le_of_ble_eq_true rfl) rfl (fun K hK O Z hn => ?_)
  refine E_aload_n (pc := 0) O 0 dX3_areRails_0 rfl rfl ?_
  refine E_getR (pc := 1) O FL_RailSequence_10 dX3_areRails_1 hf (fun v1 hf => ?_)
  refine E_getI (pc := 4) O FL_RailSequence_51 dX3_areRails_4 hf (fun v2 hf => ?_)
  refine E_iload_n (pc := 7) O 1 dX3_areRails_7 rfl rfl ?_
  refine E_callS_iP (pc := 8) (S := []) O [.int v2, .int x1] CS_RailSequence_86 (fun r e => t_X3_areBelow e) dX3_areRails_8 hf rfl ⟨(Nat.le_of_ble_eq_true rfl), (Nat.le_of_ble_eq_true rfl)⟩ ⟨(Nat.le_of_ble_eq_true rfl), (Nat.le_of_ble_eq_true rfl)⟩ (Nat.le_of_ble_eq_true rfl) (fun v3 hf => ?_)
  exact E_zretP (pc := 11) O Z hf ⟨(Nat.le_of_ble_eq_true rfl), (Nat.le_of_ble_eq_true rfl)⟩ dX3_areRails_11
set_option maxHeartbeats 4000000 in
set_option maxRecDepth 100000 in
theorem t_b_X3_dropOldestSaved_9 {K : Cx} {fr : Bool} {out : MH} (O : Ok K yX3_dropOldestSaved.cls cX3_dropOldestSaved 3 (rmm 0 0 0 0)) (Z : Out K none fr none out) (rec9 : MH → Nat → Nat → Int32 → Option MH) (hr9 : ∀ (h : MH) (x0 : Nat) (x1 : Nat) (x2 : Int32), rec9 h x0 x1 x2 = some out → EE K (fr, 0, 0) 9 [some (.ref x0), some (.ref x1), some (.int x2)] [] h) (h : MH) (x0 : Nat) (x1 : Nat) (x2 : Int32) (hf : b_X3_dropOldestSaved_9 rec9 h x0 x1 x2 = some out) : EE K (fr, 0, 0) 9 [some (.ref x0), some (.ref x1), some (.int x2)] [] h := by
  unfold b_X3_dropOldestSaved_9 at hf
  refine E_iload_n (pc := 9) O 2 dX3_dropOldestSaved_9 rfl rfl ?_
  refine E_bipush (pc := 10) O (6 : Int32) dX3_dropOldestSaved_10 (by decide) ?_
  refine E_icmp_ge (pc := 12) O 35 dX3_dropOldestSaved_12 (by decide) hf (fun hf => ?_) (fun hf => ?_)
  · refine E_aload_n (pc := 35) O 0 dX3_dropOldestSaved_35 rfl rfl ?_
    refine E_getR (pc := 36) O FL_RailSequence_19 dX3_dropOldestSaved_36 hf (fun v1 hf => ?_)
    refine E_iconst (pc := 39) O (5 : Int32) dX3_dropOldestSaved_39 (by decide) ?_
    refine E_aload_n (pc := 40) O 1 dX3_dropOldestSaved_40 rfl rfl ?_
    refine E_aastore (pc := 41) O dX3_dropOldestSaved_41 hf (fun h2 hf => ?_)
    refine E_aload_n (pc := 42) O 0 dX3_dropOldestSaved_42 rfl rfl ?_
    refine E_iconst (pc := 43) O (5 : Int32) dX3_dropOldestSaved_43 (by decide) ?_
    refine E_put (pc := 44) O FN_RailSequence_168 rfl rfl dX3_dropOldestSaved_44 hf (fun h3 hf => ?_)
    exact E_vret (pc := 47) O Z hf ⟨(Nat.le_of_ble_eq_true rfl), (Nat.le_of_ble_eq_true rfl)⟩ dX3_dropOldestSaved_47
  · refine E_aload_n (pc := 15) O 0 dX3_dropOldestSaved_15 rfl rfl ?_
    refine E_getR (pc := 16) O FL_RailSequence_19 dX3_dropOldestSaved_16 hf (fun v4 hf => ?_)
    refine E_iload_n (pc := 19) O 2 dX3_dropOldestSaved_19 rfl rfl ?_
    refine E_iconst (pc := 20) O (1 : Int32) dX3_dropOldestSaved_20 (by decide) ?_
    refine E_isub (pc := 21) O dX3_dropOldestSaved_21 ?_
    refine E_aload_n (pc := 22) O 0 dX3_dropOldestSaved_22 rfl rfl ?_
    refine E_getR (pc := 23) O FL_RailSequence_19 dX3_dropOldestSaved_23 hf (fun v5 hf => ?_)
    refine E_iload_n (pc := 26) O 2 dX3_dropOldestSaved_26 rfl rfl ?_
    refine E_aaload (pc := 27) O dX3_dropOldestSaved_27 hf (fun v6 hf => ?_)
    refine E_aastore (pc := 28) O dX3_dropOldestSaved_28 hf (fun h7 hf => ?_)
    refine E_iinc (pc := 29) O (1 : Int32) [some (.ref x0), some (.ref x1), some (.int (x2 + (1 : Int32)))] dX3_dropOldestSaved_29 rfl (by decide) rfl (by decide) rfl ?_
    refine E_goto (pc := 32) O 9 dX3_dropOldestSaved_32 (by decide) ?_
    exact hr9 h7 x0 x1 (x2 + (1 : Int32)) hf
theorem t_f_X3_dropOldestSaved_9 {K : Cx} {fr : Bool} {out : MH} (O : Ok K yX3_dropOldestSaved.cls cX3_dropOldestSaved 3 (rmm 0 0 0 0)) (Z : Out K none fr none out) : ∀ (n : Nat) (h : MH) (x0 : Nat) (x1 : Nat) (x2 : Int32), f_X3_dropOldestSaved_9 n h x0 x1 x2 = some out → EE K (fr, 0, 0) 9 [some (.ref x0), some (.ref x1), some (.int x2)] [] h := by
  intro n
  induction n with
  | zero => intro h x0 x1 x2 hf; cases hf
  | succ n ih => intro h x0 x1 x2 hf; exact t_b_X3_dropOldestSaved_9 O Z _ ih h x0 x1 x2 hf
set_option maxHeartbeats 4000000 in
set_option maxRecDepth 100000 in
theorem t_X3_dropOldestSaved {g : Gx} {fr : Bool} {h : MH} {x0} {out : MH} (hf : f_X3_dropOldestSaved h x0 = some out) : MM g yX3_dropOldestSaved cX3_dropOldestSaved 3 none 0 0 0 0 fr fr [.ref x0] h none out := by
  unfold f_X3_dropOldestSaved at hf
  refine MM_of (L := [some (.ref x0), none, none]) (by decide) (Nat.le_of_ble_eq_true rfl) rfl (fun K hK O Z hn => ?_)
  refine E_aload_n (pc := 0) O 0 dX3_dropOldestSaved_0 rfl rfl ?_
  refine E_getR (pc := 1) O FL_RailSequence_19 dX3_dropOldestSaved_1 hf (fun v8 hf => ?_)
  refine E_iconst (pc := 4) O (0 : Int32) dX3_dropOldestSaved_4 (by decide) ?_
  refine E_aaload (pc := 5) O dX3_dropOldestSaved_5 hf (fun v9 hf => ?_)
  refine E_astore_n (pc := 6) O 1 [some (.ref x0), some (.ref v9), none] dX3_dropOldestSaved_6 rfl (by decide) rfl rfl ?_
  refine E_iconst (pc := 7) O (1 : Int32) dX3_dropOldestSaved_7 (by decide) ?_
  refine E_istore_n (pc := 8) O 2 [some (.ref x0), some (.ref v9), some (.int (1 : Int32))] dX3_dropOldestSaved_8 rfl (by decide) rfl rfl ?_
  exact t_f_X3_dropOldestSaved_9 O Z FU h x0 v9 (1 : Int32) hf
set_option maxHeartbeats 4000000 in
set_option maxRecDepth 100000 in
theorem t_b_X3_save_13 {K : Cx} {fr : Bool} {out : MH} (O : Ok K yX3_save.cls cX3_save 1 (rmm 3 102 0 0)) (Z : Out K none fr none out) (h : MH) (x0 : Nat) (hf : b_X3_save_13 h x0 = some out) : EE K (fr, 0, 0) 13 [some (.ref x0)] [] h := by
  unfold b_X3_save_13 at hf
  refine E_aload_n (pc := 13) O 0 dX3_save_13 rfl rfl ?_
  refine E_getR (pc := 14) O FL_RailSequence_19 dX3_save_14 hf (fun v1 hf => ?_)
  refine E_aload_n (pc := 17) O 0 dX3_save_17 rfl rfl ?_
  refine E_getI (pc := 18) O FL_RailSequence_168 dX3_save_18 hf (fun v2 hf => ?_)
  refine E_aaload (pc := 21) O dX3_save_21 hf (fun v3 hf => ?_)
  refine E_aload_n (pc := 22) O 0 dX3_save_22 rfl rfl ?_
  refine E_getR (pc := 23) O FL_RailSequence_10 dX3_save_23 hf (fun v4 hf => ?_)
  refine E_callV_v (pc := 26) (S := []) O [.ref v4] CV_RailSequence_164 rfl (fun r e => t_X1_copyFrom e) dX3_save_26 hf rfl ⟨(Nat.le_of_ble_eq_true rfl), (Nat.le_of_ble_eq_true rfl)⟩ ⟨(Nat.le_of_ble_eq_true rfl), (Nat.le_of_ble_eq_true rfl)⟩ (Nat.le_of_ble_eq_true rfl) (fun h5 hf => ?_)
  refine E_aload_n (pc := 29) O 0 dX3_save_29 rfl rfl ?_
  refine E_dup (pc := 30) O dX3_save_30 rfl ?_
  refine E_getI (pc := 31) O FL_RailSequence_168 dX3_save_31 hf (fun v6 hf => ?_)
  refine E_iconst (pc := 34) O (1 : Int32) dX3_save_34 (by decide) ?_
  refine E_iadd (pc := 35) O dX3_save_35 ?_
  refine E_put (pc := 36) O FN_RailSequence_168 rfl rfl dX3_save_36 hf (fun h7 hf => ?_)
  exact E_vret (pc := 39) O Z hf ⟨(Nat.le_of_ble_eq_true rfl), (Nat.le_of_ble_eq_true rfl)⟩ dX3_save_39
set_option maxHeartbeats 4000000 in
set_option maxRecDepth 100000 in
theorem t_X3_save {g : Gx} {fr : Bool} {h : MH} {x0} {out : MH} (hf : f_X3_save h x0 = some out) : MM g yX3_save cX3_save 1 none 3 102 0 0 fr fr [.ref x0] h none out := by
  unfold f_X3_save at hf
  refine MM_of (L := [some (.ref x0)]) (by decide) (Nat.le_of_ble_eq_true rfl) rfl (fun K hK O Z hn => ?_)
  refine E_aload_n (pc := 0) O 0 dX3_save_0 rfl rfl ?_
  refine E_getI (pc := 1) O FL_RailSequence_168 dX3_save_1 hf (fun v8 hf => ?_)
  refine E_bipush (pc := 4) O (6 : Int32) dX3_save_4 (by decide) ?_
  refine E_icmp_lt (pc := 6) O 13 dX3_save_6 (by decide) hf (fun hf => ?_) (fun hf => ?_)
  · exact t_b_X3_save_13 O Z h x0 hf
  · refine E_aload_n (pc := 9) O 0 dX3_save_9 rfl rfl ?_
    refine E_callV_v (pc := 10) (S := []) O [] CV_RailSequence_260 rfl (fun r e => t_X3_dropOldestSaved e) dX3_save_10 hf rfl ⟨(Nat.le_of_ble_eq_true rfl), (Nat.le_of_ble_eq_true rfl)⟩ ⟨(Nat.le_of_ble_eq_true rfl), (Nat.le_of_ble_eq_true rfl)⟩ (Nat.le_of_ble_eq_true rfl) (fun h9 hf => ?_)
    exact t_b_X3_save_13 O Z h9 x0 hf
set_option maxHeartbeats 4000000 in
set_option maxRecDepth 100000 in
theorem t_b_X3_addRail_24 {K : Cx} {fr : Bool} {out : (Int32 × MH)} (O : Ok K yX3_addRail.cls cX3_addRail 5 (rmm 4 122 0 0)) (Z : Out K (some .int) fr (some (.int out.1)) out.2) (h : MH) (hf : b_X3_addRail_24 h = some out) : EE K (fr, 0, 0) 24 [none, none, none, none, none] [] h := by
  unfold b_X3_addRail_24 at hf
  cases hf
set_option maxHeartbeats 4000000 in
set_option maxRecDepth 100000 in
theorem t_X3_addRail {g : Gx} {fr : Bool} {h : MH} {x0 x1 x2 x3 x4} {out : (Int32 × MH)} (hf : f_X3_addRail h x0 x1 x2 x3 x4 = some out) : MM g yX3_addRail cX3_addRail 5 (some .int) 4 122 0 0 fr fr [.ref x0, .int x1, .int x2, .int x3, .int x4] h (some (.int out.1)) out.2 := by
  unfold f_X3_addRail at hf
  refine MM_of (L := [some (.ref x0), some (.int x1), some (.int x2), some (.int x3), some (.int x4)]) (by decide) (Nat.le_of_ble_eq_true rfl) rfl (fun K hK O Z hn => ?_)
  refine E_iconst (pc := 0) O (0 : Int32) dX3_addRail_0 (by decide) ?_
  refine E_iload_n (pc := 1) O 1 dX3_addRail_1 rfl rfl ?_
  refine E_callS_iP (pc := 2) (S := []) O [.int (0 : Int32), .int x1] CS_RailSequence_34 (fun r e => t_X3_isInRange e) dX3_addRail_2 hf rfl ⟨(Nat.le_of_ble_eq_true rfl), (Nat.le_of_ble_eq_true rfl)⟩ ⟨(Nat.le_of_ble_eq_true rfl), (Nat.le_of_ble_eq_true rfl)⟩ (Nat.le_of_ble_eq_true rfl) (fun v1 hf => ?_)
  refine E_if_eq (pc := 5) O 24 dX3_addRail_5 (by decide) hf (fun hf => ?_) (fun hf => ?_)
  · exact E_sub (L' := [none, none, none, none, none]) True.intro (t_b_X3_addRail_24 O Z h hf)
  · refine E_iconst (pc := 8) O (1 : Int32) dX3_addRail_8 (by decide) ?_
    refine E_iload_n (pc := 9) O 2 dX3_addRail_9 rfl rfl ?_
    refine E_callS_iP (pc := 10) (S := []) O [.int (1 : Int32), .int x2] CS_RailSequence_34 (fun r e => t_X3_isInRange e) dX3_addRail_10 hf rfl ⟨(Nat.le_of_ble_eq_true rfl), (Nat.le_of_ble_eq_true rfl)⟩ ⟨(Nat.le_of_ble_eq_true rfl), (Nat.le_of_ble_eq_true rfl)⟩ (Nat.le_of_ble_eq_true rfl) (fun v2 hf => ?_)
    refine E_if_eq (pc := 13) O 24 dX3_addRail_13 (by decide) hf (fun hf => ?_) (fun hf => ?_)
    · exact E_sub (L' := [none, none, none, none, none]) True.intro (t_b_X3_addRail_24 O Z h hf)
    · refine E_iconst (pc := 16) O (2 : Int32) dX3_addRail_16 (by decide) ?_
      refine E_iload_n (pc := 17) O 3 dX3_addRail_17 rfl rfl ?_
      refine E_callS_iP (pc := 18) (S := []) O [.int (2 : Int32), .int x3] CS_RailSequence_34 (fun r e => t_X3_isInRange e) dX3_addRail_18 hf rfl ⟨(Nat.le_of_ble_eq_true rfl), (Nat.le_of_ble_eq_true rfl)⟩ ⟨(Nat.le_of_ble_eq_true rfl), (Nat.le_of_ble_eq_true rfl)⟩ (Nat.le_of_ble_eq_true rfl) (fun v3 hf => ?_)
      refine E_if_ne (pc := 21) O 34 dX3_addRail_21 (by decide) hf (fun hf => ?_) (fun hf => ?_)
      · refine E_aload_n (pc := 34) O 0 dX3_addRail_34 rfl rfl ?_
        refine E_iload (pc := 35) O dX3_addRail_35 rfl ?_
        refine E_callV_iP (pc := 37) (S := []) O [.int x4] CV_RailSequence_45 rfl (fun r e => t_X3_areRails e) dX3_addRail_37 hf rfl ⟨(Nat.le_of_ble_eq_true rfl), (Nat.le_of_ble_eq_true rfl)⟩ ⟨(Nat.le_of_ble_eq_true rfl), (Nat.le_of_ble_eq_true rfl)⟩ (Nat.le_of_ble_eq_true rfl) (fun v4 hf => ?_)
        refine E_if_ne (pc := 40) O 53 dX3_addRail_40 (by decide) hf (fun hf => ?_) (fun hf => ?_)
        · refine E_aload_n (pc := 53) O 0 dX3_addRail_53 rfl rfl ?_
          refine E_getR (pc := 54) O FL_RailSequence_10 dX3_addRail_54 hf (fun v5 hf => ?_)
          refine E_getI (pc := 57) O FL_RailSequence_51 dX3_addRail_57 hf (fun v6 hf => ?_)
          refine E_bipush (pc := 60) O (8 : Int32) dX3_addRail_60 (by decide) ?_
          refine E_icmp_lt (pc := 62) O 75 dX3_addRail_62 (by decide) hf (fun hf => ?_) (fun hf => ?_)
          · refine E_aload_n (pc := 75) O 0 dX3_addRail_75 rfl rfl ?_
            refine E_callV_v (pc := 76) (S := []) O [] CV_RailSequence_60 rfl (fun r e => t_X3_save e) dX3_addRail_76 hf rfl ⟨(Nat.le_of_ble_eq_true rfl), (Nat.le_of_ble_eq_true rfl)⟩ ⟨(Nat.le_of_ble_eq_true rfl), (Nat.le_of_ble_eq_true rfl)⟩ (Nat.le_of_ble_eq_true rfl) (fun h7 hf => ?_)
            refine E_aload_n (pc := 79) O 0 dX3_addRail_79 rfl rfl ?_
            refine E_getR (pc := 80) O FL_RailSequence_10 dX3_addRail_80 hf (fun v8 hf => ?_)
            refine E_iload_n (pc := 83) O 1 dX3_addRail_83 rfl rfl ?_
            refine E_iload_n (pc := 84) O 2 dX3_addRail_84 rfl rfl ?_
            refine E_iload_n (pc := 85) O 3 dX3_addRail_85 rfl rfl ?_
            refine E_iload (pc := 86) O dX3_addRail_86 rfl ?_
            refine E_callV_v (pc := 88) (S := []) O [.int x1, .int x2, .int x3, .int x4] CV_RailSequence_63 rfl (fun r e => t_X1_add e) dX3_addRail_88 hf rfl ⟨(Nat.le_of_ble_eq_true rfl), (Nat.le_of_ble_eq_true rfl)⟩ ⟨(Nat.le_of_ble_eq_true rfl), (Nat.le_of_ble_eq_true rfl)⟩ (Nat.le_of_ble_eq_true rfl) (fun h9 hf => ?_)
            refine E_aload_n (pc := 91) O 0 dX3_addRail_91 rfl rfl ?_
            refine E_getR (pc := 92) O FL_RailSequence_10 dX3_addRail_92 hf (fun v10 hf => ?_)
            refine E_getI (pc := 95) O FL_RailSequence_51 dX3_addRail_95 hf (fun v11 hf => ?_)
            refine E_iconst (pc := 98) O (1 : Int32) dX3_addRail_98 (by decide) ?_
            refine E_isub (pc := 99) O dX3_addRail_99 ?_
            exact E_iret (pc := 100) O Z hf ⟨(Nat.le_of_ble_eq_true rfl), (Nat.le_of_ble_eq_true rfl)⟩ dX3_addRail_100
          · cases hf
        · cases hf
      · exact E_sub (L' := [none, none, none, none, none]) True.intro (t_b_X3_addRail_24 O Z h hf)
set_option maxHeartbeats 4000000 in
set_option maxRecDepth 100000 in
theorem t_b_X3_isRail_20 {K : Cx} {fr : Bool} {out : Int32} {h : MH} (O : Ok K yX3_isRail.cls cX3_isRail 2 (rmm 0 0 0 0)) (Z : Out K (some .boolean) fr (some (.int out)) h) (s0 : Int32) (hf : b_X3_isRail_20 h s0 = some out) : EE K (fr, 0, 0) 20 [none, none] [.int s0] h := by
  unfold b_X3_isRail_20 at hf
  exact E_zretP (pc := 20) O Z hf ⟨(Nat.le_of_ble_eq_true rfl), (Nat.le_of_ble_eq_true rfl)⟩ dX3_isRail_20
set_option maxHeartbeats 4000000 in
set_option maxRecDepth 100000 in
theorem t_b_X3_isRail_19 {K : Cx} {fr : Bool} {out : Int32} {h : MH} (O : Ok K yX3_isRail.cls cX3_isRail 2 (rmm 0 0 0 0)) (Z : Out K (some .boolean) fr (some (.int out)) h)  (hf : b_X3_isRail_19 h  = some out) : EE K (fr, 0, 0) 19 [none, none] [] h := by
  unfold b_X3_isRail_19 at hf
  refine E_iconst (pc := 19) O (0 : Int32) dX3_isRail_19 (by decide) ?_
  exact t_b_X3_isRail_20 O Z (0 : Int32) hf
set_option maxHeartbeats 4000000 in
set_option maxRecDepth 100000 in
theorem t_X3_isRail {g : Gx} {fr : Bool} {h : MH} {x0 x1} {out : Int32} (hf : f_X3_isRail h x0 x1 = some out) : MM g yX3_isRail cX3_isRail 2 (some .boolean) 0 0 0 0 fr fr [.ref x0, .int x1] h (some (.int out)) h := by
  unfold f_X3_isRail at hf
  refine MM_of (L := [some (.ref x0), some (.int x1)]) (by decide) (Nat.le_of_ble_eq_true rfl) rfl (fun K hK O Z hn => ?_)
  refine E_iload_n (pc := 0) O 1 dX3_isRail_0 rfl rfl ?_
  refine E_if_lt (pc := 1) O 19 dX3_isRail_1 (by decide) hf (fun hf => ?_) (fun hf => ?_)
  · exact E_sub (L' := [none, none]) True.intro (t_b_X3_isRail_19 O Z  hf)
  · refine E_iload_n (pc := 4) O 1 dX3_isRail_4 rfl rfl ?_
    refine E_aload_n (pc := 5) O 0 dX3_isRail_5 rfl rfl ?_
    refine E_getR (pc := 6) O FL_RailSequence_10 dX3_isRail_6 hf (fun v1 hf => ?_)
    refine E_getI (pc := 9) O FL_RailSequence_51 dX3_isRail_9 hf (fun v2 hf => ?_)
    refine E_icmp_ge (pc := 12) O 19 dX3_isRail_12 (by decide) hf (fun hf => ?_) (fun hf => ?_)
    · exact E_sub (L' := [none, none]) True.intro (t_b_X3_isRail_19 O Z  hf)
    · refine E_iconst (pc := 15) O (1 : Int32) dX3_isRail_15 (by decide) ?_
      refine E_goto (pc := 16) O 20 dX3_isRail_16 (by decide) ?_
      exact E_sub (L' := [none, none]) True.intro (t_b_X3_isRail_20 O Z (1 : Int32) hf)
set_option maxHeartbeats 4000000 in
set_option maxRecDepth 100000 in
theorem t_b_X3_set_18 {K : Cx} {fr : Bool} {out : (Int32 × MH)} (O : Ok K yX3_set.cls cX3_set 5 (rmm 4 122 0 0)) (Z : Out K (some .int) fr (some (.int out.1)) out.2) (h : MH) (hf : b_X3_set_18 h = some out) : EE K (fr, 0, 0) 18 [none, none, none, none, none] [] h := by
  unfold b_X3_set_18 at hf
  cases hf
set_option maxHeartbeats 4000000 in
set_option maxRecDepth 100000 in
theorem t_X3_set {g : Gx} {fr : Bool} {h : MH} {x0 x1 x2 x3} {out : (Int32 × MH)} (hf : f_X3_set h x0 x1 x2 x3 = some out) : MM g yX3_set cX3_set 5 (some .int) 4 122 0 0 fr fr [.ref x0, .int x1, .int x2, .int x3] h (some (.int out.1)) out.2 := by
  unfold f_X3_set at hf
  refine MM_of (L := [some (.ref x0), some (.int x1), some (.int x2), some (.int x3), none]) (by decide) (Nat.le_of_ble_eq_true rfl) rfl (fun K hK O Z hn => ?_)
  refine E_aload_n (pc := 0) O 0 dX3_set_0 rfl rfl ?_
  refine E_iload_n (pc := 1) O 1 dX3_set_1 rfl rfl ?_
  refine E_callV_iP (pc := 2) (S := []) O [.int x1] CV_RailSequence_67 rfl (fun r e => t_X3_isRail e) dX3_set_2 hf rfl ⟨(Nat.le_of_ble_eq_true rfl), (Nat.le_of_ble_eq_true rfl)⟩ ⟨(Nat.le_of_ble_eq_true rfl), (Nat.le_of_ble_eq_true rfl)⟩ (Nat.le_of_ble_eq_true rfl) (fun v1 hf => ?_)
  refine E_if_eq (pc := 5) O 18 dX3_set_5 (by decide) hf (fun hf => ?_) (fun hf => ?_)
  · exact E_sub (L' := [none, none, none, none, none]) True.intro (t_b_X3_set_18 O Z h hf)
  · refine E_iload_n (pc := 8) O 2 dX3_set_8 rfl rfl ?_
    refine E_if_lt (pc := 9) O 18 dX3_set_9 (by decide) hf (fun hf => ?_) (fun hf => ?_)
    · exact E_sub (L' := [none, none, none, none, none]) True.intro (t_b_X3_set_18 O Z h hf)
    · refine E_iload_n (pc := 12) O 2 dX3_set_12 rfl rfl ?_
      refine E_bipush (pc := 13) O (7 : Int32) dX3_set_13 (by decide) ?_
      refine E_icmp_lt (pc := 15) O 28 dX3_set_15 (by decide) hf (fun hf => ?_) (fun hf => ?_)
      · refine E_iload_n (pc := 28) O 2 dX3_set_28 rfl rfl ?_
        refine E_iload_n (pc := 29) O 3 dX3_set_29 rfl rfl ?_
        refine E_callS_iP (pc := 30) (S := []) O [.int x2, .int x3] CS_RailSequence_34 (fun r e => t_X3_isInRange e) dX3_set_30 hf rfl ⟨(Nat.le_of_ble_eq_true rfl), (Nat.le_of_ble_eq_true rfl)⟩ ⟨(Nat.le_of_ble_eq_true rfl), (Nat.le_of_ble_eq_true rfl)⟩ (Nat.le_of_ble_eq_true rfl) (fun v2 hf => ?_)
        refine E_if_ne (pc := 33) O 46 dX3_set_33 (by decide) hf (fun hf => ?_) (fun hf => ?_)
        · refine E_aload_n (pc := 46) O 0 dX3_set_46 rfl rfl ?_
          refine E_callV_v (pc := 47) (S := []) O [] CV_RailSequence_60 rfl (fun r e => t_X3_save e) dX3_set_47 hf rfl ⟨(Nat.le_of_ble_eq_true rfl), (Nat.le_of_ble_eq_true rfl)⟩ ⟨(Nat.le_of_ble_eq_true rfl), (Nat.le_of_ble_eq_true rfl)⟩ (Nat.le_of_ble_eq_true rfl) (fun h3 hf => ?_)
          refine E_aload_n (pc := 50) O 0 dX3_set_50 rfl rfl ?_
          refine E_getR (pc := 51) O FL_RailSequence_10 dX3_set_51 hf (fun v4 hf => ?_)
          refine E_iload_n (pc := 54) O 1 dX3_set_54 rfl rfl ?_
          refine E_iload_n (pc := 55) O 2 dX3_set_55 rfl rfl ?_
          refine E_callV_iP (pc := 56) (S := []) O [.int x1, .int x2] CV_RailSequence_77 rfl (fun r e => t_X1_propertyOf e) dX3_set_56 hf rfl ⟨(Nat.le_of_ble_eq_true rfl), (Nat.le_of_ble_eq_true rfl)⟩ ⟨(Nat.le_of_ble_eq_true rfl), (Nat.le_of_ble_eq_true rfl)⟩ (Nat.le_of_ble_eq_true rfl) (fun v5 hf => ?_)
          refine E_istore (pc := 59) O [some (.ref x0), some (.int x1), some (.int x2), some (.int x3), some (.int v5)] dX3_set_59 (by decide) rfl rfl ?_
          refine E_aload_n (pc := 61) O 0 dX3_set_61 rfl rfl ?_
          refine E_getR (pc := 62) O FL_RailSequence_10 dX3_set_62 hf (fun v6 hf => ?_)
          refine E_getR (pc := 65) O FL_RailSequence_81 dX3_set_65 hf (fun v7 hf => ?_)
          refine E_iload_n (pc := 68) O 1 dX3_set_68 rfl rfl ?_
          refine E_bipush (pc := 69) O (7 : Int32) dX3_set_69 (by decide) ?_
          refine E_imul (pc := 71) O dX3_set_71 ?_
          refine E_iload_n (pc := 72) O 2 dX3_set_72 rfl rfl ?_
          refine E_iadd (pc := 73) O dX3_set_73 ?_
          refine E_iload_n (pc := 74) O 3 dX3_set_74 rfl rfl ?_
          refine E_iastore (pc := 75) O dX3_set_75 hf (fun h8 hf => ?_)
          refine E_iload (pc := 76) O dX3_set_76 rfl ?_
          exact E_iret (pc := 78) O Z hf ⟨(Nat.le_of_ble_eq_true rfl), (Nat.le_of_ble_eq_true rfl)⟩ dX3_set_78
        · cases hf
      · exact E_sub (L' := [none, none, none, none, none]) True.intro (t_b_X3_set_18 O Z h hf)
set_option maxHeartbeats 4000000 in
set_option maxRecDepth 100000 in
theorem t_b_X3_setNeeds_71 {K : Cx} {fr : Bool} {out : (Int32 × MH)} (O : Ok K yX3_setNeeds.cls cX3_setNeeds 4 (rmm 4 122 0 0)) (Z : Out K (some .int) fr (some (.int out.1)) out.2) (h : MH) (x0 : Nat) (x1 : Int32) (x2 : Int32) (hf : b_X3_setNeeds_71 h x0 x1 x2 = some out) : EE K (fr, 0, 0) 71 [some (.ref x0), some (.int x1), some (.int x2), none] [] h := by
  unfold b_X3_setNeeds_71 at hf
  refine E_aload_n (pc := 71) O 0 dX3_setNeeds_71 rfl rfl ?_
  refine E_callV_v (pc := 72) (S := []) O [] CV_RailSequence_60 rfl (fun r e => t_X3_save e) dX3_setNeeds_72 hf rfl ⟨(Nat.le_of_ble_eq_true rfl), (Nat.le_of_ble_eq_true rfl)⟩ ⟨(Nat.le_of_ble_eq_true rfl), (Nat.le_of_ble_eq_true rfl)⟩ (Nat.le_of_ble_eq_true rfl) (fun h1 hf => ?_)
  refine E_aload_n (pc := 75) O 0 dX3_setNeeds_75 rfl rfl ?_
  refine E_getR (pc := 76) O FL_RailSequence_10 dX3_setNeeds_76 hf (fun v2 hf => ?_)
  refine E_getR (pc := 79) O FL_RailSequence_96 dX3_setNeeds_79 hf (fun v3 hf => ?_)
  refine E_iload_n (pc := 82) O 1 dX3_setNeeds_82 rfl rfl ?_
  refine E_iaload (pc := 83) O dX3_setNeeds_83 hf (fun v4 hf => ?_)
  refine E_istore_n (pc := 84) O 3 [some (.ref x0), some (.int x1), some (.int x2), some (.int v4)] dX3_setNeeds_84 rfl (by decide) rfl rfl ?_
  refine E_aload_n (pc := 85) O 0 dX3_setNeeds_85 rfl rfl ?_
  refine E_getR (pc := 86) O FL_RailSequence_10 dX3_setNeeds_86 hf (fun v5 hf => ?_)
  refine E_getR (pc := 89) O FL_RailSequence_96 dX3_setNeeds_89 hf (fun v6 hf => ?_)
  refine E_iload_n (pc := 92) O 1 dX3_setNeeds_92 rfl rfl ?_
  refine E_iload_n (pc := 93) O 2 dX3_setNeeds_93 rfl rfl ?_
  refine E_iastore (pc := 94) O dX3_setNeeds_94 hf (fun h7 hf => ?_)
  refine E_iload_n (pc := 95) O 3 dX3_setNeeds_95 rfl rfl ?_
  exact E_iret (pc := 96) O Z hf ⟨(Nat.le_of_ble_eq_true rfl), (Nat.le_of_ble_eq_true rfl)⟩ dX3_setNeeds_96
set_option maxHeartbeats 4000000 in
set_option maxRecDepth 100000 in
theorem t_X3_setNeeds {g : Gx} {fr : Bool} {h : MH} {x0 x1 x2} {out : (Int32 × MH)} (hf : f_X3_setNeeds h x0 x1 x2 = some out) : MM g yX3_setNeeds cX3_setNeeds 4 (some .int) 4 122 0 0 fr fr [.ref x0, .int x1, .int x2] h (some (.int out.1)) out.2 := by
  unfold f_X3_setNeeds at hf
  refine MM_of (L := [some (.ref x0), some (.int x1), some (.int x2), none]) (by decide) (Nat.le_of_ble_eq_true rfl) rfl (fun K hK O Z hn => ?_)
  refine E_aload_n (pc := 0) O 0 dX3_setNeeds_0 rfl rfl ?_
  refine E_iload_n (pc := 1) O 1 dX3_setNeeds_1 rfl rfl ?_
  refine E_callV_iP (pc := 2) (S := []) O [.int x1] CV_RailSequence_67 rfl (fun r e => t_X3_isRail e) dX3_setNeeds_2 hf rfl ⟨(Nat.le_of_ble_eq_true rfl), (Nat.le_of_ble_eq_true rfl)⟩ ⟨(Nat.le_of_ble_eq_true rfl), (Nat.le_of_ble_eq_true rfl)⟩ (Nat.le_of_ble_eq_true rfl) (fun v8 hf => ?_)
  refine E_if_ne (pc := 5) O 18 dX3_setNeeds_5 (by decide) hf (fun hf => ?_) (fun hf => ?_)
  · refine E_iload_n (pc := 18) O 1 dX3_setNeeds_18 rfl rfl ?_
    refine E_iload_n (pc := 19) O 2 dX3_setNeeds_19 rfl rfl ?_
    refine E_callS_iP (pc := 20) (S := []) O [.int x1, .int x2] CS_RailSequence_86 (fun r e => t_X3_areBelow e) dX3_setNeeds_20 hf rfl ⟨(Nat.le_of_ble_eq_true rfl), (Nat.le_of_ble_eq_true rfl)⟩ ⟨(Nat.le_of_ble_eq_true rfl), (Nat.le_of_ble_eq_true rfl)⟩ (Nat.le_of_ble_eq_true rfl) (fun v9 hf => ?_)
    refine E_if_ne (pc := 23) O 36 dX3_setNeeds_23 (by decide) hf (fun hf => ?_) (fun hf => ?_)
    · refine E_aload_n (pc := 36) O 0 dX3_setNeeds_36 rfl rfl ?_
      refine E_getR (pc := 37) O FL_RailSequence_10 dX3_setNeeds_37 hf (fun v10 hf => ?_)
      refine E_getR (pc := 40) O FL_RailSequence_91 dX3_setNeeds_40 hf (fun v11 hf => ?_)
      refine E_iload_n (pc := 43) O 1 dX3_setNeeds_43 rfl rfl ?_
      refine E_iaload (pc := 44) O dX3_setNeeds_44 hf (fun v12 hf => ?_)
      refine E_if_eq (pc := 45) O 71 dX3_setNeeds_45 (by decide) hf (fun hf => ?_) (fun hf => ?_)
      · exact t_b_X3_setNeeds_71 O Z h x0 x1 x2 hf
      · refine E_aload_n (pc := 48) O 0 dX3_setNeeds_48 rfl rfl ?_
        refine E_getR (pc := 49) O FL_RailSequence_10 dX3_setNeeds_49 hf (fun v13 hf => ?_)
        refine E_getR (pc := 52) O FL_RailSequence_91 dX3_setNeeds_52 hf (fun v14 hf => ?_)
        refine E_iload_n (pc := 55) O 1 dX3_setNeeds_55 rfl rfl ?_
        refine E_iaload (pc := 56) O dX3_setNeeds_56 hf (fun v15 hf => ?_)
        refine E_iconst (pc := 57) O (5 : Int32) dX3_setNeeds_57 (by decide) ?_
        refine E_icmp_eq (pc := 58) O 71 dX3_setNeeds_58 (by decide) hf (fun hf => ?_) (fun hf => ?_)
        · exact t_b_X3_setNeeds_71 O Z h x0 x1 x2 hf
        · cases hf
    · cases hf
  · cases hf
set_option maxHeartbeats 4000000 in
set_option maxRecDepth 100000 in
theorem t_b_X3_setResidue_11 {K : Cx} {fr : Bool} {out : (Int32 × MH)} (O : Ok K yX3_setResidue.cls cX3_setResidue 3 (rmm 4 122 0 0)) (Z : Out K (some .int) fr (some (.int out.1)) out.2) (h : MH) (hf : b_X3_setResidue_11 h = some out) : EE K (fr, 0, 0) 11 [none, none, none] [] h := by
  unfold b_X3_setResidue_11 at hf
  cases hf
set_option maxHeartbeats 4000000 in
set_option maxRecDepth 100000 in
theorem t_X3_setResidue {g : Gx} {fr : Bool} {h : MH} {x0 x1} {out : (Int32 × MH)} (hf : f_X3_setResidue h x0 x1 = some out) : MM g yX3_setResidue cX3_setResidue 3 (some .int) 4 122 0 0 fr fr [.ref x0, .int x1] h (some (.int out.1)) out.2 := by
  unfold f_X3_setResidue at hf
  refine MM_of (L := [some (.ref x0), some (.int x1), none]) (by decide) (Nat.le_of_ble_eq_true rfl) rfl (fun K hK O Z hn => ?_)
  refine E_iload_n (pc := 0) O 1 dX3_setResidue_0 rfl rfl ?_
  refine E_if_lt (pc := 1) O 11 dX3_setResidue_1 (by decide) hf (fun hf => ?_) (fun hf => ?_)
  · exact E_sub (L' := [none, none, none]) True.intro (t_b_X3_setResidue_11 O Z h hf)
  · refine E_iload_n (pc := 4) O 1 dX3_setResidue_4 rfl rfl ?_
    refine E_sipush (pc := 5) O (500 : Int32) dX3_setResidue_5 (by decide) ?_
    refine E_icmp_le (pc := 8) O 21 dX3_setResidue_8 (by decide) hf (fun hf => ?_) (fun hf => ?_)
    · refine E_aload_n (pc := 21) O 0 dX3_setResidue_21 rfl rfl ?_
      refine E_callV_v (pc := 22) (S := []) O [] CV_RailSequence_60 rfl (fun r e => t_X3_save e) dX3_setResidue_22 hf rfl ⟨(Nat.le_of_ble_eq_true rfl), (Nat.le_of_ble_eq_true rfl)⟩ ⟨(Nat.le_of_ble_eq_true rfl), (Nat.le_of_ble_eq_true rfl)⟩ (Nat.le_of_ble_eq_true rfl) (fun h1 hf => ?_)
      refine E_aload_n (pc := 25) O 0 dX3_setResidue_25 rfl rfl ?_
      refine E_getR (pc := 26) O FL_RailSequence_10 dX3_setResidue_26 hf (fun v2 hf => ?_)
      refine E_getI (pc := 29) O FL_RailSequence_101 dX3_setResidue_29 hf (fun v3 hf => ?_)
      refine E_istore_n (pc := 32) O 2 [some (.ref x0), some (.int x1), some (.int v3)] dX3_setResidue_32 rfl (by decide) rfl rfl ?_
      refine E_aload_n (pc := 33) O 0 dX3_setResidue_33 rfl rfl ?_
      refine E_getR (pc := 34) O FL_RailSequence_10 dX3_setResidue_34 hf (fun v4 hf => ?_)
      refine E_iload_n (pc := 37) O 1 dX3_setResidue_37 rfl rfl ?_
      refine E_put (pc := 38) O FN_RailSequence_101 rfl rfl dX3_setResidue_38 hf (fun h5 hf => ?_)
      refine E_iload_n (pc := 41) O 2 dX3_setResidue_41 rfl rfl ?_
      exact E_iret (pc := 42) O Z hf ⟨(Nat.le_of_ble_eq_true rfl), (Nat.le_of_ble_eq_true rfl)⟩ dX3_setResidue_42
    · exact E_sub (L' := [none, none, none]) True.intro (t_b_X3_setResidue_11 O Z h hf)
set_option maxHeartbeats 4000000 in
set_option maxRecDepth 100000 in
theorem t_X3_on {g : Gx} {fr : Bool} {h : MH} {x0 x1} {out : (Int32 × MH)} (hf : f_X3_on h x0 x1 = some out) : MM g yX3_on cX3_on 2 (some .int) 4 122 0 0 fr fr [.ref x0, .int x1] h (some (.int out.1)) out.2 := by
  unfold f_X3_on at hf
  refine MM_of (L := [some (.ref x0), some (.int x1)]) (by decide) (Nat.le_of_ble_eq_true rfl) rfl (fun K hK O Z hn => ?_)
  refine E_aload_n (pc := 0) O 0 dX3_on_0 rfl rfl ?_
  refine E_iload_n (pc := 1) O 1 dX3_on_1 rfl rfl ?_
  refine E_callV_iP (pc := 2) (S := []) O [.int x1] CV_RailSequence_45 rfl (fun r e => t_X3_areRails e) dX3_on_2 hf rfl ⟨(Nat.le_of_ble_eq_true rfl), (Nat.le_of_ble_eq_true rfl)⟩ ⟨(Nat.le_of_ble_eq_true rfl), (Nat.le_of_ble_eq_true rfl)⟩ (Nat.le_of_ble_eq_true rfl) (fun v1 hf => ?_)
  refine E_if_ne (pc := 5) O 18 dX3_on_5 (by decide) hf (fun hf => ?_) (fun hf => ?_)
  · refine E_aload_n (pc := 18) O 0 dX3_on_18 rfl rfl ?_
    refine E_callV_v (pc := 19) (S := []) O [] CV_RailSequence_60 rfl (fun r e => t_X3_save e) dX3_on_19 hf rfl ⟨(Nat.le_of_ble_eq_true rfl), (Nat.le_of_ble_eq_true rfl)⟩ ⟨(Nat.le_of_ble_eq_true rfl), (Nat.le_of_ble_eq_true rfl)⟩ (Nat.le_of_ble_eq_true rfl) (fun h2 hf => ?_)
    refine E_aload_n (pc := 22) O 0 dX3_on_22 rfl rfl ?_
    refine E_getR (pc := 23) O FL_RailSequence_10 dX3_on_23 hf (fun v3 hf => ?_)
    refine E_dup (pc := 26) O dX3_on_26 rfl ?_
    refine E_getI (pc := 27) O FL_RailSequence_106 dX3_on_27 hf (fun v4 hf => ?_)
    refine E_aload_n (pc := 30) O 0 dX3_on_30 rfl rfl ?_
    refine E_getR (pc := 31) O FL_RailSequence_10 dX3_on_31 hf (fun v5 hf => ?_)
    refine E_iload_n (pc := 34) O 1 dX3_on_34 rfl rfl ?_
    refine E_callV_iP (pc := 35) (S := [.int v4, .ref v3]) O [.int x1] CV_RailSequence_109 rfl (fun r e => t_X1_withAllNeeded e) dX3_on_35 hf rfl ⟨(Nat.le_of_ble_eq_true rfl), (Nat.le_of_ble_eq_true rfl)⟩ ⟨(Nat.le_of_ble_eq_true rfl), (Nat.le_of_ble_eq_true rfl)⟩ (Nat.le_of_ble_eq_true rfl) (fun v6 hf => ?_)
    refine E_ior (pc := 38) O dX3_on_38 ?_
    refine E_put (pc := 39) O FN_RailSequence_106 rfl rfl dX3_on_39 hf (fun h7 hf => ?_)
    refine E_aload_n (pc := 42) O 0 dX3_on_42 rfl rfl ?_
    refine E_getR (pc := 43) O FL_RailSequence_10 dX3_on_43 hf (fun v8 hf => ?_)
    refine E_getI (pc := 46) O FL_RailSequence_106 dX3_on_46 hf (fun v9 hf => ?_)
    exact E_iret (pc := 49) O Z hf ⟨(Nat.le_of_ble_eq_true rfl), (Nat.le_of_ble_eq_true rfl)⟩ dX3_on_49
  · cases hf
set_option maxHeartbeats 4000000 in
set_option maxRecDepth 100000 in
theorem t_X3_off {g : Gx} {fr : Bool} {h : MH} {x0 x1} {out : (Int32 × MH)} (hf : f_X3_off h x0 x1 = some out) : MM g yX3_off cX3_off 2 (some .int) 4 122 0 0 fr fr [.ref x0, .int x1] h (some (.int out.1)) out.2 := by
  unfold f_X3_off at hf
  refine MM_of (L := [some (.ref x0), some (.int x1)]) (by decide) (Nat.le_of_ble_eq_true rfl) rfl (fun K hK O Z hn => ?_)
  refine E_aload_n (pc := 0) O 0 dX3_off_0 rfl rfl ?_
  refine E_iload_n (pc := 1) O 1 dX3_off_1 rfl rfl ?_
  refine E_callV_iP (pc := 2) (S := []) O [.int x1] CV_RailSequence_45 rfl (fun r e => t_X3_areRails e) dX3_off_2 hf rfl ⟨(Nat.le_of_ble_eq_true rfl), (Nat.le_of_ble_eq_true rfl)⟩ ⟨(Nat.le_of_ble_eq_true rfl), (Nat.le_of_ble_eq_true rfl)⟩ (Nat.le_of_ble_eq_true rfl) (fun v1 hf => ?_)
  refine E_if_ne (pc := 5) O 18 dX3_off_5 (by decide) hf (fun hf => ?_) (fun hf => ?_)
  · refine E_aload_n (pc := 18) O 0 dX3_off_18 rfl rfl ?_
    refine E_callV_v (pc := 19) (S := []) O [] CV_RailSequence_60 rfl (fun r e => t_X3_save e) dX3_off_19 hf rfl ⟨(Nat.le_of_ble_eq_true rfl), (Nat.le_of_ble_eq_true rfl)⟩ ⟨(Nat.le_of_ble_eq_true rfl), (Nat.le_of_ble_eq_true rfl)⟩ (Nat.le_of_ble_eq_true rfl) (fun h2 hf => ?_)
    refine E_aload_n (pc := 22) O 0 dX3_off_22 rfl rfl ?_
    refine E_getR (pc := 23) O FL_RailSequence_10 dX3_off_23 hf (fun v3 hf => ?_)
    refine E_dup (pc := 26) O dX3_off_26 rfl ?_
    refine E_getI (pc := 27) O FL_RailSequence_106 dX3_off_27 hf (fun v4 hf => ?_)
    refine E_aload_n (pc := 30) O 0 dX3_off_30 rfl rfl ?_
    refine E_getR (pc := 31) O FL_RailSequence_10 dX3_off_31 hf (fun v5 hf => ?_)
    refine E_iload_n (pc := 34) O 1 dX3_off_34 rfl rfl ?_
    refine E_callV_iP (pc := 35) (S := [.int v4, .ref v3]) O [.int x1] CV_RailSequence_113 rfl (fun r e => t_X1_withFollowers e) dX3_off_35 hf rfl ⟨(Nat.le_of_ble_eq_true rfl), (Nat.le_of_ble_eq_true rfl)⟩ ⟨(Nat.le_of_ble_eq_true rfl), (Nat.le_of_ble_eq_true rfl)⟩ (Nat.le_of_ble_eq_true rfl) (fun v6 hf => ?_)
    refine E_iconst (pc := 38) O (-1 : Int32) dX3_off_38 (by decide) ?_
    refine E_ixor (pc := 39) O dX3_off_39 ?_
    refine E_iand (pc := 40) O dX3_off_40 ?_
    refine E_put (pc := 41) O FN_RailSequence_106 rfl rfl dX3_off_41 hf (fun h7 hf => ?_)
    refine E_aload_n (pc := 44) O 0 dX3_off_44 rfl rfl ?_
    refine E_getR (pc := 45) O FL_RailSequence_10 dX3_off_45 hf (fun v8 hf => ?_)
    refine E_getI (pc := 48) O FL_RailSequence_106 dX3_off_48 hf (fun v9 hf => ?_)
    exact E_iret (pc := 51) O Z hf ⟨(Nat.le_of_ble_eq_true rfl), (Nat.le_of_ble_eq_true rfl)⟩ dX3_off_51
  · cases hf
set_option maxHeartbeats 4000000 in
set_option maxRecDepth 100000 in
theorem t_X3_restart {g : Gx} {fr : Bool} {h : MH} {x0 x1} {out : (Int32 × MH)} (hf : f_X3_restart h x0 x1 = some out) : MM g yX3_restart cX3_restart 2 (some .int) 4 130 0 0 fr fr [.ref x0, .int x1] h (some (.int out.1)) out.2 := by
  unfold f_X3_restart at hf
  refine MM_of (L := [some (.ref x0), some (.int x1)]) (by decide) (Nat.le_of_ble_eq_true rfl) rfl (fun K hK O Z hn => ?_)
  refine E_aload_n (pc := 0) O 0 dX3_restart_0 rfl rfl ?_
  refine E_iload_n (pc := 1) O 1 dX3_restart_1 rfl rfl ?_
  refine E_callV_iP (pc := 2) (S := []) O [.int x1] CV_RailSequence_67 rfl (fun r e => t_X3_isRail e) dX3_restart_2 hf rfl ⟨(Nat.le_of_ble_eq_true rfl), (Nat.le_of_ble_eq_true rfl)⟩ ⟨(Nat.le_of_ble_eq_true rfl), (Nat.le_of_ble_eq_true rfl)⟩ (Nat.le_of_ble_eq_true rfl) (fun v1 hf => ?_)
  refine E_if_ne (pc := 5) O 18 dX3_restart_5 (by decide) hf (fun hf => ?_) (fun hf => ?_)
  · refine E_aload_n (pc := 18) O 0 dX3_restart_18 rfl rfl ?_
    refine E_getR (pc := 19) O FL_RailSequence_10 dX3_restart_19 hf (fun v2 hf => ?_)
    refine E_iload_n (pc := 22) O 1 dX3_restart_22 rfl rfl ?_
    refine E_callV_iP (pc := 23) (S := []) O [.int x1] CV_RailSequence_116 rfl (fun r e => t_X1_isWanted e) dX3_restart_23 hf rfl ⟨(Nat.le_of_ble_eq_true rfl), (Nat.le_of_ble_eq_true rfl)⟩ ⟨(Nat.le_of_ble_eq_true rfl), (Nat.le_of_ble_eq_true rfl)⟩ (Nat.le_of_ble_eq_true rfl) (fun v3 hf => ?_)
    refine E_if_ne (pc := 26) O 39 dX3_restart_26 (by decide) hf (fun hf => ?_) (fun hf => ?_)
    · refine E_aload_n (pc := 39) O 0 dX3_restart_39 rfl rfl ?_
      refine E_callV_v (pc := 40) (S := []) O [] CV_RailSequence_60 rfl (fun r e => t_X3_save e) dX3_restart_40 hf rfl ⟨(Nat.le_of_ble_eq_true rfl), (Nat.le_of_ble_eq_true rfl)⟩ ⟨(Nat.le_of_ble_eq_true rfl), (Nat.le_of_ble_eq_true rfl)⟩ (Nat.le_of_ble_eq_true rfl) (fun h4 hf => ?_)
      refine E_aload_n (pc := 43) O 0 dX3_restart_43 rfl rfl ?_
      refine E_getR (pc := 44) O FL_RailSequence_10 dX3_restart_44 hf (fun v5 hf => ?_)
      refine E_iload_n (pc := 47) O 1 dX3_restart_47 rfl rfl ?_
      refine E_callV_i (pc := 48) (S := []) O [.int x1] CV_RailSequence_121 rfl (fun r e => t_X1_dropForRestart e) dX3_restart_48 hf rfl ⟨(Nat.le_of_ble_eq_true rfl), (Nat.le_of_ble_eq_true rfl)⟩ ⟨(Nat.le_of_ble_eq_true rfl), (Nat.le_of_ble_eq_true rfl)⟩ (Nat.le_of_ble_eq_true rfl) (fun p6 hf => ?_)
      exact E_iret (pc := 51) O Z hf ⟨(Nat.le_of_ble_eq_true rfl), (Nat.le_of_ble_eq_true rfl)⟩ dX3_restart_51
    · cases hf
  · cases hf
set_option maxHeartbeats 4000000 in
set_option maxRecDepth 100000 in
theorem t_b_X3_shortCircuit_29 {K : Cx} {fr : Bool} {out : (Int32 × MH)} (O : Ok K yX3_shortCircuit.cls cX3_shortCircuit 4 (rmm 4 122 0 0)) (Z : Out K (some .int) fr (some (.int out.1)) out.2) (h : MH) (hf : b_X3_shortCircuit_29 h = some out) : EE K (fr, 0, 0) 29 [none, none, none, none] [] h := by
  unfold b_X3_shortCircuit_29 at hf
  cases hf
set_option maxHeartbeats 4000000 in
set_option maxRecDepth 100000 in
theorem t_X3_shortCircuit {g : Gx} {fr : Bool} {h : MH} {x0 x1 x2} {out : (Int32 × MH)} (hf : f_X3_shortCircuit h x0 x1 x2 = some out) : MM g yX3_shortCircuit cX3_shortCircuit 4 (some .int) 4 122 0 0 fr fr [.ref x0, .int x1, .int x2] h (some (.int out.1)) out.2 := by
  unfold f_X3_shortCircuit at hf
  refine MM_of (L := [some (.ref x0), some (.int x1), some (.int x2), none]) (by decide) (Nat.le_of_ble_eq_true rfl) rfl (fun K hK O Z hn => ?_)
  refine E_aload_n (pc := 0) O 0 dX3_shortCircuit_0 rfl rfl ?_
  refine E_iload_n (pc := 1) O 1 dX3_shortCircuit_1 rfl rfl ?_
  refine E_callV_iP (pc := 2) (S := []) O [.int x1] CV_RailSequence_67 rfl (fun r e => t_X3_isRail e) dX3_shortCircuit_2 hf rfl ⟨(Nat.le_of_ble_eq_true rfl), (Nat.le_of_ble_eq_true rfl)⟩ ⟨(Nat.le_of_ble_eq_true rfl), (Nat.le_of_ble_eq_true rfl)⟩ (Nat.le_of_ble_eq_true rfl) (fun v1 hf => ?_)
  refine E_if_ne (pc := 5) O 18 dX3_shortCircuit_5 (by decide) hf (fun hf => ?_) (fun hf => ?_)
  · refine E_iload_n (pc := 18) O 2 dX3_shortCircuit_18 rfl rfl ?_
    refine E_if_lt (pc := 19) O 29 dX3_shortCircuit_19 (by decide) hf (fun hf => ?_) (fun hf => ?_)
    · exact E_sub (L' := [none, none, none, none]) True.intro (t_b_X3_shortCircuit_29 O Z h hf)
    · refine E_iload_n (pc := 22) O 2 dX3_shortCircuit_22 rfl rfl ?_
      refine E_sipush (pc := 23) O (500 : Int32) dX3_shortCircuit_23 (by decide) ?_
      refine E_icmp_le (pc := 26) O 39 dX3_shortCircuit_26 (by decide) hf (fun hf => ?_) (fun hf => ?_)
      · refine E_aload_n (pc := 39) O 0 dX3_shortCircuit_39 rfl rfl ?_
        refine E_callV_v (pc := 40) (S := []) O [] CV_RailSequence_60 rfl (fun r e => t_X3_save e) dX3_shortCircuit_40 hf rfl ⟨(Nat.le_of_ble_eq_true rfl), (Nat.le_of_ble_eq_true rfl)⟩ ⟨(Nat.le_of_ble_eq_true rfl), (Nat.le_of_ble_eq_true rfl)⟩ (Nat.le_of_ble_eq_true rfl) (fun h2 hf => ?_)
        refine E_aload_n (pc := 43) O 0 dX3_shortCircuit_43 rfl rfl ?_
        refine E_getR (pc := 44) O FL_RailSequence_10 dX3_shortCircuit_44 hf (fun v3 hf => ?_)
        refine E_getR (pc := 47) O FL_RailSequence_126 dX3_shortCircuit_47 hf (fun v4 hf => ?_)
        refine E_iload_n (pc := 50) O 1 dX3_shortCircuit_50 rfl rfl ?_
        refine E_iaload (pc := 51) O dX3_shortCircuit_51 hf (fun v5 hf => ?_)
        refine E_istore_n (pc := 52) O 3 [some (.ref x0), some (.int x1), some (.int x2), some (.int v5)] dX3_shortCircuit_52 rfl (by decide) rfl rfl ?_
        refine E_aload_n (pc := 53) O 0 dX3_shortCircuit_53 rfl rfl ?_
        refine E_getR (pc := 54) O FL_RailSequence_10 dX3_shortCircuit_54 hf (fun v6 hf => ?_)
        refine E_getR (pc := 57) O FL_RailSequence_126 dX3_shortCircuit_57 hf (fun v7 hf => ?_)
        refine E_iload_n (pc := 60) O 1 dX3_shortCircuit_60 rfl rfl ?_
        refine E_iload_n (pc := 61) O 2 dX3_shortCircuit_61 rfl rfl ?_
        refine E_iastore (pc := 62) O dX3_shortCircuit_62 hf (fun h8 hf => ?_)
        refine E_iload_n (pc := 63) O 3 dX3_shortCircuit_63 rfl rfl ?_
        exact E_iret (pc := 64) O Z hf ⟨(Nat.le_of_ble_eq_true rfl), (Nat.le_of_ble_eq_true rfl)⟩ dX3_shortCircuit_64
      · exact E_sub (L' := [none, none, none, none]) True.intro (t_b_X3_shortCircuit_29 O Z h hf)
  · cases hf
set_option maxHeartbeats 4000000 in
set_option maxRecDepth 100000 in
theorem t_b_X3_stick_27 {K : Cx} {fr : Bool} {out : (Int32 × MH)} (O : Ok K yX3_stick.cls cX3_stick 4 (rmm 4 122 0 0)) (Z : Out K (some .int) fr (some (.int out.1)) out.2) (h : MH) (hf : b_X3_stick_27 h = some out) : EE K (fr, 0, 0) 27 [none, none, none, none] [] h := by
  unfold b_X3_stick_27 at hf
  cases hf
set_option maxHeartbeats 4000000 in
set_option maxRecDepth 100000 in
theorem t_X3_stick {g : Gx} {fr : Bool} {h : MH} {x0 x1 x2} {out : (Int32 × MH)} (hf : f_X3_stick h x0 x1 x2 = some out) : MM g yX3_stick cX3_stick 4 (some .int) 4 122 0 0 fr fr [.ref x0, .int x1, .int x2] h (some (.int out.1)) out.2 := by
  unfold f_X3_stick at hf
  refine MM_of (L := [some (.ref x0), some (.int x1), some (.int x2), none]) (by decide) (Nat.le_of_ble_eq_true rfl) rfl (fun K hK O Z hn => ?_)
  refine E_aload_n (pc := 0) O 0 dX3_stick_0 rfl rfl ?_
  refine E_iload_n (pc := 1) O 1 dX3_stick_1 rfl rfl ?_
  refine E_callV_iP (pc := 2) (S := []) O [.int x1] CV_RailSequence_67 rfl (fun r e => t_X3_isRail e) dX3_stick_2 hf rfl ⟨(Nat.le_of_ble_eq_true rfl), (Nat.le_of_ble_eq_true rfl)⟩ ⟨(Nat.le_of_ble_eq_true rfl), (Nat.le_of_ble_eq_true rfl)⟩ (Nat.le_of_ble_eq_true rfl) (fun v1 hf => ?_)
  refine E_if_ne (pc := 5) O 18 dX3_stick_5 (by decide) hf (fun hf => ?_) (fun hf => ?_)
  · refine E_iload_n (pc := 18) O 2 dX3_stick_18 rfl rfl ?_
    refine E_if_lt (pc := 19) O 27 dX3_stick_19 (by decide) hf (fun hf => ?_) (fun hf => ?_)
    · exact E_sub (L' := [none, none, none, none]) True.intro (t_b_X3_stick_27 O Z h hf)
    · refine E_iload_n (pc := 22) O 2 dX3_stick_22 rfl rfl ?_
      refine E_iconst (pc := 23) O (2 : Int32) dX3_stick_23 (by decide) ?_
      refine E_icmp_le (pc := 24) O 37 dX3_stick_24 (by decide) hf (fun hf => ?_) (fun hf => ?_)
      · refine E_aload_n (pc := 37) O 0 dX3_stick_37 rfl rfl ?_
        refine E_callV_v (pc := 38) (S := []) O [] CV_RailSequence_60 rfl (fun r e => t_X3_save e) dX3_stick_38 hf rfl ⟨(Nat.le_of_ble_eq_true rfl), (Nat.le_of_ble_eq_true rfl)⟩ ⟨(Nat.le_of_ble_eq_true rfl), (Nat.le_of_ble_eq_true rfl)⟩ (Nat.le_of_ble_eq_true rfl) (fun h2 hf => ?_)
        refine E_aload_n (pc := 41) O 0 dX3_stick_41 rfl rfl ?_
        refine E_getR (pc := 42) O FL_RailSequence_10 dX3_stick_42 hf (fun v3 hf => ?_)
        refine E_getR (pc := 45) O FL_RailSequence_131 dX3_stick_45 hf (fun v4 hf => ?_)
        refine E_iload_n (pc := 48) O 1 dX3_stick_48 rfl rfl ?_
        refine E_iaload (pc := 49) O dX3_stick_49 hf (fun v5 hf => ?_)
        refine E_istore_n (pc := 50) O 3 [some (.ref x0), some (.int x1), some (.int x2), some (.int v5)] dX3_stick_50 rfl (by decide) rfl rfl ?_
        refine E_aload_n (pc := 51) O 0 dX3_stick_51 rfl rfl ?_
        refine E_getR (pc := 52) O FL_RailSequence_10 dX3_stick_52 hf (fun v6 hf => ?_)
        refine E_getR (pc := 55) O FL_RailSequence_131 dX3_stick_55 hf (fun v7 hf => ?_)
        refine E_iload_n (pc := 58) O 1 dX3_stick_58 rfl rfl ?_
        refine E_iload_n (pc := 59) O 2 dX3_stick_59 rfl rfl ?_
        refine E_iastore (pc := 60) O dX3_stick_60 hf (fun h8 hf => ?_)
        refine E_iload_n (pc := 61) O 3 dX3_stick_61 rfl rfl ?_
        exact E_iret (pc := 62) O Z hf ⟨(Nat.le_of_ble_eq_true rfl), (Nat.le_of_ble_eq_true rfl)⟩ dX3_stick_62
      · exact E_sub (L' := [none, none, none, none]) True.intro (t_b_X3_stick_27 O Z h hf)
  · cases hf
set_option maxHeartbeats 4000000 in
set_option maxRecDepth 100000 in
theorem t_b_X3_tick_12 {K : Cx} {fr : Bool} {out : (Int32 × MH)} (O : Ok K yX3_tick.cls cX3_tick 4 (rmm 5 129 0 0)) (Z : Out K (some .int) fr (some (.int out.1)) out.2) (h : MH) (hf : b_X3_tick_12 h = some out) : EE K (fr, 0, 0) 12 [none, none, none, none] [] h := by
  unfold b_X3_tick_12 at hf
  cases hf
set_option maxHeartbeats 4000000 in
set_option maxRecDepth 100000 in
theorem t_b_X3_tick_55 {K : Cx} {fr : Bool} {out : (Int32 × MH)} (O : Ok K yX3_tick.cls cX3_tick 4 (rmm 5 129 0 0)) (Z : Out K (some .int) fr (some (.int out.1)) out.2) (rec55 : MH → Nat → Int32 → Int32 → Int32 → Option (Int32 × MH)) (hr55 : ∀ (h : MH) (x0 : Nat) (x1 : Int32) (x2 : Int32) (x3 : Int32), rec55 h x0 x1 x2 x3 = some out → EE K (fr, 0, 0) 55 [some (.ref x0), some (.int x1), some (.int x2), some (.int x3)] [] h) (h : MH) (x0 : Nat) (x1 : Int32) (x2 : Int32) (x3 : Int32) (hf : b_X3_tick_55 rec55 h x0 x1 x2 x3 = some out) : EE K (fr, 0, 0) 55 [some (.ref x0), some (.int x1), some (.int x2), some (.int x3)] [] h := by
  unfold b_X3_tick_55 at hf
  refine E_iload_n (pc := 55) O 3 dX3_tick_55 rfl rfl ?_
  refine E_iload_n (pc := 56) O 1 dX3_tick_56 rfl rfl ?_
  refine E_icmp_ge (pc := 57) O 76 dX3_tick_57 (by decide) hf (fun hf => ?_) (fun hf => ?_)
  · refine E_iload_n (pc := 76) O 2 dX3_tick_76 rfl rfl ?_
    exact E_iret (pc := 77) O Z hf ⟨(Nat.le_of_ble_eq_true rfl), (Nat.le_of_ble_eq_true rfl)⟩ dX3_tick_77
  · refine E_iload_n (pc := 60) O 2 dX3_tick_60 rfl rfl ?_
    refine E_aload_n (pc := 61) O 0 dX3_tick_61 rfl rfl ?_
    refine E_getR (pc := 62) O FL_RailSequence_10 dX3_tick_62 hf (fun v1 hf => ?_)
    refine E_callV_i (pc := 65) (S := [.int x2]) O [] CV_RailSequence_139 rfl (fun r e => t_X1_passTick e) dX3_tick_65 hf rfl ⟨(Nat.le_of_ble_eq_true rfl), (Nat.le_of_ble_eq_true rfl)⟩ ⟨(Nat.le_of_ble_eq_true rfl), (Nat.le_of_ble_eq_true rfl)⟩ (Nat.le_of_ble_eq_true rfl) (fun p2 hf => ?_)
    refine E_iadd (pc := 68) O dX3_tick_68 ?_
    obtain ⟨v3, ev3, hf⟩ := ob hf
    have ev3 := os ev3
    rw [ev3]
    refine E_istore_n (pc := 69) O 2 [some (.ref x0), some (.int x1), some (.int v3), some (.int x3)] dX3_tick_69 rfl (by decide) rfl rfl ?_
    refine E_iinc (pc := 70) O (1 : Int32) [some (.ref x0), some (.int x1), some (.int v3), some (.int (x3 + (1 : Int32)))] dX3_tick_70 rfl (by decide) rfl (by decide) rfl ?_
    refine E_goto (pc := 73) O 55 dX3_tick_73 (by decide) ?_
    exact hr55 p2.2 x0 x1 v3 (x3 + (1 : Int32)) hf
theorem t_f_X3_tick_55 {K : Cx} {fr : Bool} {out : (Int32 × MH)} (O : Ok K yX3_tick.cls cX3_tick 4 (rmm 5 129 0 0)) (Z : Out K (some .int) fr (some (.int out.1)) out.2) : ∀ (n : Nat) (h : MH) (x0 : Nat) (x1 : Int32) (x2 : Int32) (x3 : Int32), f_X3_tick_55 n h x0 x1 x2 x3 = some out → EE K (fr, 0, 0) 55 [some (.ref x0), some (.int x1), some (.int x2), some (.int x3)] [] h := by
  intro n
  induction n with
  | zero => intro h x0 x1 x2 x3 hf; cases hf
  | succ n ih => intro h x0 x1 x2 x3 hf; exact t_b_X3_tick_55 O Z _ ih h x0 x1 x2 x3 hf
set_option maxHeartbeats 4000000 in
set_option maxRecDepth 100000 in
theorem t_X3_tick {g : Gx} {fr : Bool} {h : MH} {x0 x1} {out : (Int32 × MH)} (hf : f_X3_tick h x0 x1 = some out) : MM g yX3_tick cX3_tick 4 (some .int) 5 129 0 0 fr fr [.ref x0, .int x1] h (some (.int out.1)) out.2 := by
  unfold f_X3_tick at hf
  refine MM_of (L := [some (.ref x0), some (.int x1), none, none]) (by decide) (Nat.le_of_ble_eq_true rfl) rfl (fun K hK O Z hn => ?_)
  refine E_iload_n (pc := 0) O 1 dX3_tick_0 rfl rfl ?_
  refine E_iconst (pc := 1) O (1 : Int32) dX3_tick_1 (by decide) ?_
  refine E_icmp_lt (pc := 2) O 12 dX3_tick_2 (by decide) hf (fun hf => ?_) (fun hf => ?_)
  · exact E_sub (L' := [none, none, none, none]) True.intro (t_b_X3_tick_12 O Z h hf)
  · refine E_iload_n (pc := 5) O 1 dX3_tick_5 rfl rfl ?_
    refine E_sipush (pc := 6) O (200 : Int32) dX3_tick_6 (by decide) ?_
    refine E_icmp_le (pc := 9) O 22 dX3_tick_9 (by decide) hf (fun hf => ?_) (fun hf => ?_)
    · refine E_aload_n (pc := 22) O 0 dX3_tick_22 rfl rfl ?_
      refine E_getR (pc := 23) O FL_RailSequence_10 dX3_tick_23 hf (fun v4 hf => ?_)
      refine E_getI (pc := 26) O FL_RailSequence_134 dX3_tick_26 hf (fun v5 hf => ?_)
      refine E_iload_n (pc := 29) O 1 dX3_tick_29 rfl rfl ?_
      refine E_iadd (pc := 30) O dX3_tick_30 ?_
      refine E_sipush (pc := 31) O (20000 : Int32) dX3_tick_31 (by decide) ?_
      refine E_icmp_le (pc := 34) O 47 dX3_tick_34 (by decide) hf (fun hf => ?_) (fun hf => ?_)
      · refine E_aload_n (pc := 47) O 0 dX3_tick_47 rfl rfl ?_
        refine E_callV_v (pc := 48) (S := []) O [] CV_RailSequence_60 rfl (fun r e => t_X3_save e) dX3_tick_48 hf rfl ⟨(Nat.le_of_ble_eq_true rfl), (Nat.le_of_ble_eq_true rfl)⟩ ⟨(Nat.le_of_ble_eq_true rfl), (Nat.le_of_ble_eq_true rfl)⟩ (Nat.le_of_ble_eq_true rfl) (fun h6 hf => ?_)
        refine E_iconst (pc := 51) O (0 : Int32) dX3_tick_51 (by decide) ?_
        refine E_istore_n (pc := 52) O 2 [some (.ref x0), some (.int x1), some (.int (0 : Int32)), none] dX3_tick_52 rfl (by decide) rfl rfl ?_
        refine E_iconst (pc := 53) O (0 : Int32) dX3_tick_53 (by decide) ?_
        refine E_istore_n (pc := 54) O 3 [some (.ref x0), some (.int x1), some (.int (0 : Int32)), some (.int (0 : Int32))] dX3_tick_54 rfl (by decide) rfl rfl ?_
        exact t_f_X3_tick_55 O Z FU h6 x0 x1 (0 : Int32) (0 : Int32) hf
      · cases hf
    · exact E_sub (L' := [none, none, none, none]) True.intro (t_b_X3_tick_12 O Z h hf)
set_option maxHeartbeats 4000000 in
set_option maxRecDepth 100000 in
theorem t_b_X3_rail_28 {K : Cx} {fr : Bool} {out : (Int32 × MH)} (O : Ok K yX3_rail.cls cX3_rail 3 (rmm 2 45 0 0)) (Z : Out K (some .int) fr (some (.int out.1)) out.2) (h : MH) (hf : b_X3_rail_28 h = some out) : EE K (fr, 0, 0) 28 [none, none, none] [] h := by
  unfold b_X3_rail_28 at hf
  cases hf
set_option maxHeartbeats 4000000 in
set_option maxRecDepth 100000 in
theorem t_X3_rail {g : Gx} {fr : Bool} {h : MH} {x0 x1 x2} {out : (Int32 × MH)} (hf : f_X3_rail h x0 x1 x2 = some out) : MM g yX3_rail cX3_rail 3 (some .int) 2 45 0 0 fr fr [.ref x0, .int x1, .int x2] h (some (.int out.1)) out.2 := by
  unfold f_X3_rail at hf
  refine MM_of (L := [some (.ref x0), some (.int x1), some (.int x2)]) (by decide) (Nat.le_of_ble_eq_true rfl) rfl (fun K hK O Z hn => ?_)
  refine E_aload_n (pc := 0) O 0 dX3_rail_0 rfl rfl ?_
  refine E_iload_n (pc := 1) O 1 dX3_rail_1 rfl rfl ?_
  refine E_callV_iP (pc := 2) (S := []) O [.int x1] CV_RailSequence_67 rfl (fun r e => t_X3_isRail e) dX3_rail_2 hf rfl ⟨(Nat.le_of_ble_eq_true rfl), (Nat.le_of_ble_eq_true rfl)⟩ ⟨(Nat.le_of_ble_eq_true rfl), (Nat.le_of_ble_eq_true rfl)⟩ (Nat.le_of_ble_eq_true rfl) (fun v1 hf => ?_)
  refine E_if_ne (pc := 5) O 18 dX3_rail_5 (by decide) hf (fun hf => ?_) (fun hf => ?_)
  · refine E_iload_n (pc := 18) O 2 dX3_rail_18 rfl rfl ?_
    refine E_if_lt (pc := 19) O 28 dX3_rail_19 (by decide) hf (fun hf => ?_) (fun hf => ?_)
    · exact E_sub (L' := [none, none, none]) True.intro (t_b_X3_rail_28 O Z h hf)
    · refine E_iload_n (pc := 22) O 2 dX3_rail_22 rfl rfl ?_
      refine E_bipush (pc := 23) O (19 : Int32) dX3_rail_23 (by decide) ?_
      refine E_icmp_lt (pc := 25) O 38 dX3_rail_25 (by decide) hf (fun hf => ?_) (fun hf => ?_)
      · refine E_aload_n (pc := 38) O 0 dX3_rail_38 rfl rfl ?_
        refine E_getR (pc := 39) O FL_RailSequence_10 dX3_rail_39 hf (fun v2 hf => ?_)
        refine E_iload_n (pc := 42) O 1 dX3_rail_42 rfl rfl ?_
        refine E_iload_n (pc := 43) O 2 dX3_rail_43 rfl rfl ?_
        refine E_callV_iP (pc := 44) (S := []) O [.int x1, .int x2] CV_RailSequence_175 rfl (fun r e => t_X1_numberOf e) dX3_rail_44 hf rfl ⟨(Nat.le_of_ble_eq_true rfl), (Nat.le_of_ble_eq_true rfl)⟩ ⟨(Nat.le_of_ble_eq_true rfl), (Nat.le_of_ble_eq_true rfl)⟩ (Nat.le_of_ble_eq_true rfl) (fun v3 hf => ?_)
        exact E_iret (pc := 47) O Z hf ⟨(Nat.le_of_ble_eq_true rfl), (Nat.le_of_ble_eq_true rfl)⟩ dX3_rail_47
      · exact E_sub (L' := [none, none, none]) True.intro (t_b_X3_rail_28 O Z h hf)
  · cases hf
set_option maxHeartbeats 4000000 in
set_option maxRecDepth 100000 in
theorem t_b_X3_account_27 {K : Cx} {fr : Bool} {out : (Int32 × MH)} (O : Ok K yX3_account.cls cX3_account 3 (rmm 1 21 0 0)) (Z : Out K (some .int) fr (some (.int out.1)) out.2) (h : MH) (hf : b_X3_account_27 h = some out) : EE K (fr, 0, 0) 27 [none, none, none] [] h := by
  unfold b_X3_account_27 at hf
  cases hf
set_option maxHeartbeats 4000000 in
set_option maxRecDepth 100000 in
theorem t_X3_account {g : Gx} {fr : Bool} {h : MH} {x0 x1 x2} {out : (Int32 × MH)} (hf : f_X3_account h x0 x1 x2 = some out) : MM g yX3_account cX3_account 3 (some .int) 1 21 0 0 fr fr [.ref x0, .int x1, .int x2] h (some (.int out.1)) out.2 := by
  unfold f_X3_account at hf
  refine MM_of (L := [some (.ref x0), some (.int x1), some (.int x2)]) (by decide) (Nat.le_of_ble_eq_true rfl) rfl (fun K hK O Z hn => ?_)
  refine E_aload_n (pc := 0) O 0 dX3_account_0 rfl rfl ?_
  refine E_iload_n (pc := 1) O 1 dX3_account_1 rfl rfl ?_
  refine E_callV_iP (pc := 2) (S := []) O [.int x1] CV_RailSequence_67 rfl (fun r e => t_X3_isRail e) dX3_account_2 hf rfl ⟨(Nat.le_of_ble_eq_true rfl), (Nat.le_of_ble_eq_true rfl)⟩ ⟨(Nat.le_of_ble_eq_true rfl), (Nat.le_of_ble_eq_true rfl)⟩ (Nat.le_of_ble_eq_true rfl) (fun v1 hf => ?_)
  refine E_if_ne (pc := 5) O 18 dX3_account_5 (by decide) hf (fun hf => ?_) (fun hf => ?_)
  · refine E_iload_n (pc := 18) O 2 dX3_account_18 rfl rfl ?_
    refine E_if_lt (pc := 19) O 27 dX3_account_19 (by decide) hf (fun hf => ?_) (fun hf => ?_)
    · exact E_sub (L' := [none, none, none]) True.intro (t_b_X3_account_27 O Z h hf)
    · refine E_iload_n (pc := 22) O 2 dX3_account_22 rfl rfl ?_
      refine E_iconst (pc := 23) O (4 : Int32) dX3_account_23 (by decide) ?_
      refine E_icmp_lt (pc := 24) O 37 dX3_account_24 (by decide) hf (fun hf => ?_) (fun hf => ?_)
      · refine E_aload_n (pc := 37) O 0 dX3_account_37 rfl rfl ?_
        refine E_getR (pc := 38) O FL_RailSequence_10 dX3_account_38 hf (fun v2 hf => ?_)
        refine E_getR (pc := 41) O FL_RailSequence_180 dX3_account_41 hf (fun v3 hf => ?_)
        refine E_iload_n (pc := 44) O 1 dX3_account_44 rfl rfl ?_
        refine E_iconst (pc := 45) O (4 : Int32) dX3_account_45 (by decide) ?_
        refine E_imul (pc := 46) O dX3_account_46 ?_
        refine E_iload_n (pc := 47) O 2 dX3_account_47 rfl rfl ?_
        refine E_iadd (pc := 48) O dX3_account_48 ?_
        refine E_iaload (pc := 49) O dX3_account_49 hf (fun v4 hf => ?_)
        exact E_iret (pc := 50) O Z hf ⟨(Nat.le_of_ble_eq_true rfl), (Nat.le_of_ble_eq_true rfl)⟩ dX3_account_50
      · exact E_sub (L' := [none, none, none]) True.intro (t_b_X3_account_27 O Z h hf)
  · cases hf
set_option maxHeartbeats 4000000 in
set_option maxRecDepth 100000 in
theorem t_b_X3_entry_19 {K : Cx} {fr : Bool} {out : (Int32 × MH)} (O : Ok K yX3_entry.cls cX3_entry 3 (rmm 1 22 0 0)) (Z : Out K (some .int) fr (some (.int out.1)) out.2) (h : MH) (hf : b_X3_entry_19 h = some out) : EE K (fr, 0, 0) 19 [none, none, none] [] h := by
  unfold b_X3_entry_19 at hf
  cases hf
set_option maxHeartbeats 4000000 in
set_option maxRecDepth 100000 in
theorem t_b_X3_entry_59 {K : Cx} {fr : Bool} {out : (Int32 × MH)} (O : Ok K yX3_entry.cls cX3_entry 3 (rmm 1 22 0 0)) (Z : Out K (some .int) fr (some (.int out.1)) out.2) (h : MH) (s0 : Int32) (hf : b_X3_entry_59 h s0 = some out) : EE K (fr, 0, 0) 59 [none, none, none] [.int s0] h := by
  unfold b_X3_entry_59 at hf
  exact E_iret (pc := 59) O Z hf ⟨(Nat.le_of_ble_eq_true rfl), (Nat.le_of_ble_eq_true rfl)⟩ dX3_entry_59
set_option maxHeartbeats 4000000 in
set_option maxRecDepth 100000 in
theorem t_X3_entry {g : Gx} {fr : Bool} {h : MH} {x0 x1 x2} {out : (Int32 × MH)} (hf : f_X3_entry h x0 x1 x2 = some out) : MM g yX3_entry cX3_entry 3 (some .int) 1 22 0 0 fr fr [.ref x0, .int x1, .int x2] h (some (.int out.1)) out.2 := by
  unfold f_X3_entry at hf
  refine MM_of (L := [some (.ref x0), some (.int x1), some (.int x2)]) (by decide) (Nat.le_of_ble_eq_true rfl) rfl (fun K hK O Z hn => ?_)
  refine E_iload_n (pc := 0) O 1 dX3_entry_0 rfl rfl ?_
  refine E_if_lt (pc := 1) O 19 dX3_entry_1 (by decide) hf (fun hf => ?_) (fun hf => ?_)
  · exact E_sub (L' := [none, none, none]) True.intro (t_b_X3_entry_19 O Z h hf)
  · refine E_iload_n (pc := 4) O 1 dX3_entry_4 rfl rfl ?_
    refine E_bipush (pc := 5) O (16 : Int32) dX3_entry_5 (by decide) ?_
    refine E_icmp_ge (pc := 7) O 19 dX3_entry_7 (by decide) hf (fun hf => ?_) (fun hf => ?_)
    · exact E_sub (L' := [none, none, none]) True.intro (t_b_X3_entry_19 O Z h hf)
    · refine E_iload_n (pc := 10) O 2 dX3_entry_10 rfl rfl ?_
      refine E_if_lt (pc := 11) O 19 dX3_entry_11 (by decide) hf (fun hf => ?_) (fun hf => ?_)
      · exact E_sub (L' := [none, none, none]) True.intro (t_b_X3_entry_19 O Z h hf)
      · refine E_iload_n (pc := 14) O 2 dX3_entry_14 rfl rfl ?_
        refine E_iconst (pc := 15) O (4 : Int32) dX3_entry_15 (by decide) ?_
        refine E_icmp_lt (pc := 16) O 29 dX3_entry_16 (by decide) hf (fun hf => ?_) (fun hf => ?_)
        · refine E_iload_n (pc := 29) O 1 dX3_entry_29 rfl rfl ?_
          refine E_aload_n (pc := 30) O 0 dX3_entry_30 rfl rfl ?_
          refine E_getR (pc := 31) O FL_RailSequence_10 dX3_entry_31 hf (fun v1 hf => ?_)
          refine E_getR (pc := 34) O FL_RailSequence_187 dX3_entry_34 hf (fun v2 hf => ?_)
          refine E_getI (pc := 37) O FL_RailSequence_191 dX3_entry_37 hf (fun v3 hf => ?_)
          refine E_icmp_ge (pc := 40) O 58 dX3_entry_40 (by decide) hf (fun hf => ?_) (fun hf => ?_)
          · refine E_iconst (pc := 58) O (-1 : Int32) dX3_entry_58 (by decide) ?_
            exact E_sub (L' := [none, none, none]) True.intro (t_b_X3_entry_59 O Z h (-1 : Int32) hf)
          · refine E_aload_n (pc := 43) O 0 dX3_entry_43 rfl rfl ?_
            refine E_getR (pc := 44) O FL_RailSequence_10 dX3_entry_44 hf (fun v4 hf => ?_)
            refine E_getR (pc := 47) O FL_RailSequence_187 dX3_entry_47 hf (fun v5 hf => ?_)
            refine E_iload_n (pc := 50) O 1 dX3_entry_50 rfl rfl ?_
            refine E_iload_n (pc := 51) O 2 dX3_entry_51 rfl rfl ?_
            refine E_callV_iP (pc := 52) (S := []) O [.int x1, .int x2] CV_RailSequence_194 rfl (fun r e => t_X0_numberAt e) dX3_entry_52 hf rfl ⟨(Nat.le_of_ble_eq_true rfl), (Nat.le_of_ble_eq_true rfl)⟩ ⟨(Nat.le_of_ble_eq_true rfl), (Nat.le_of_ble_eq_true rfl)⟩ (Nat.le_of_ble_eq_true rfl) (fun v6 hf => ?_)
            refine E_goto (pc := 55) O 59 dX3_entry_55 (by decide) ?_
            exact E_sub (L' := [none, none, none]) True.intro (t_b_X3_entry_59 O Z h v6 hf)
        · exact E_sub (L' := [none, none, none]) True.intro (t_b_X3_entry_19 O Z h hf)
set_option maxHeartbeats 4000000 in
set_option maxRecDepth 100000 in
theorem t_X3_forget {g : Gx} {fr : Bool} {h : MH} {x0 x1} {out : (Int32 × MH)} (hf : f_X3_forget h x0 x1 = some out) : MM g yX3_forget cX3_forget 2 (some .int) 4 122 0 0 fr fr [.ref x0, .int x1] h (some (.int out.1)) out.2 := by
  unfold f_X3_forget at hf
  refine MM_of (L := [some (.ref x0), some (.int x1)]) (by decide) (Nat.le_of_ble_eq_true rfl) rfl (fun K hK O Z hn => ?_)
  refine E_aload_n (pc := 0) O 0 dX3_forget_0 rfl rfl ?_
  refine E_iload_n (pc := 1) O 1 dX3_forget_1 rfl rfl ?_
  refine E_callV_iP (pc := 2) (S := []) O [.int x1] CV_RailSequence_67 rfl (fun r e => t_X3_isRail e) dX3_forget_2 hf rfl ⟨(Nat.le_of_ble_eq_true rfl), (Nat.le_of_ble_eq_true rfl)⟩ ⟨(Nat.le_of_ble_eq_true rfl), (Nat.le_of_ble_eq_true rfl)⟩ (Nat.le_of_ble_eq_true rfl) (fun v1 hf => ?_)
  refine E_if_ne (pc := 5) O 18 dX3_forget_5 (by decide) hf (fun hf => ?_) (fun hf => ?_)
  · refine E_aload_n (pc := 18) O 0 dX3_forget_18 rfl rfl ?_
    refine E_callV_v (pc := 19) (S := []) O [] CV_RailSequence_60 rfl (fun r e => t_X3_save e) dX3_forget_19 hf rfl ⟨(Nat.le_of_ble_eq_true rfl), (Nat.le_of_ble_eq_true rfl)⟩ ⟨(Nat.le_of_ble_eq_true rfl), (Nat.le_of_ble_eq_true rfl)⟩ (Nat.le_of_ble_eq_true rfl) (fun h2 hf => ?_)
    refine E_aload_n (pc := 22) O 0 dX3_forget_22 rfl rfl ?_
    refine E_getR (pc := 23) O FL_RailSequence_10 dX3_forget_23 hf (fun v3 hf => ?_)
    refine E_getR (pc := 26) O FL_RailSequence_187 dX3_forget_26 hf (fun v4 hf => ?_)
    refine E_iload_n (pc := 29) O 1 dX3_forget_29 rfl rfl ?_
    refine E_callV_i (pc := 30) (S := []) O [.int x1] CV_RailSequence_197 rfl (fun r e => t_X0_removeRail e) dX3_forget_30 hf rfl ⟨(Nat.le_of_ble_eq_true rfl), (Nat.le_of_ble_eq_true rfl)⟩ ⟨(Nat.le_of_ble_eq_true rfl), (Nat.le_of_ble_eq_true rfl)⟩ (Nat.le_of_ble_eq_true rfl) (fun p5 hf => ?_)
    exact E_iret (pc := 33) O Z hf ⟨(Nat.le_of_ble_eq_true rfl), (Nat.le_of_ble_eq_true rfl)⟩ dX3_forget_33
  · cases hf
