/-! walks: the machine does what the plain functions say: written by program -/
set_option maxHeartbeats 4000000 in
set_option maxRecDepth 100000 in
theorem t_X4_init {g : Gx} {h : MH} {x0} {out : MH} (hf : f_X4_init h x0 = some out) : MM g yX4_init cX4_init 1 none 1 60 6 1956 true true [.ref x0] h none out := by
  unfold f_X4_init at hf
  refine MM_of (L := [some (.ref x0)]) (by decide) (Nat.le_of_ble_eq_true rfl) rfl (fun K hK O Z hn => ?_)
  refine E_aload_n (pc := 0) O 0 dX4_init_0 rfl rfl ?_
  refine E_objInit (pc := 1) O (aw3 229 (by decide +kernel) rfl) (aw1 21 (by decide +kernel) rfl) (aw1 22 (by decide +kernel) rfl) (Nat.le_of_ble_eq_true rfl) (Nat.le_of_ble_eq_true rfl) dX4_init_1 ?_
  refine E_aload_n (pc := 4) O 0 dX4_init_4 rfl rfl ?_
  refine E_sipush (pc := 5) O (228 : Int32) dX4_init_5 (by decide) ?_
  refine E_newaI (pc := 8) O (aw1 43 (by decide +kernel) rfl) dX4_init_8 (by decide) (by decide) (Nat.le_of_ble_eq_true rfl) hf ⟨(Nat.le_of_ble_eq_true rfl), (Nat.le_of_ble_eq_true rfl)⟩ (fun h1 hf => ?_)
  show EE K (true, 1, 228) _ _ _ _
  refine E_putF (pc := 10) O FF_RailSequenceModel_7 hn rfl rfl dX4_init_10 hf (fun h2 hf => ?_)
  refine E_aload_n (pc := 13) O 0 dX4_init_13 rfl rfl ?_
  refine E_sipush (pc := 14) O (1368 : Int32) dX4_init_14 (by decide) ?_
  refine E_newaI (pc := 17) O (aw1 43 (by decide +kernel) rfl) dX4_init_17 (by decide) (by decide) (Nat.le_of_ble_eq_true rfl) hf ⟨(Nat.le_of_ble_eq_true rfl), (Nat.le_of_ble_eq_true rfl)⟩ (fun h3 hf => ?_)
  show EE K (true, 2, 1596) _ _ _ _
  refine E_putF (pc := 19) O FF_RailSequenceModel_13 hn rfl rfl dX4_init_19 hf (fun h4 hf => ?_)
  refine E_aload_n (pc := 22) O 0 dX4_init_22 rfl rfl ?_
  refine E_bipush (pc := 23) O (60 : Int32) dX4_init_23 (by decide) ?_
  refine E_newaI (pc := 25) O (aw1 43 (by decide +kernel) rfl) dX4_init_25 (by decide) (by decide) (Nat.le_of_ble_eq_true rfl) hf ⟨(Nat.le_of_ble_eq_true rfl), (Nat.le_of_ble_eq_true rfl)⟩ (fun h5 hf => ?_)
  show EE K (true, 3, 1656) _ _ _ _
  refine E_putF (pc := 27) O FF_RailSequenceModel_16 hn rfl rfl dX4_init_27 hf (fun h6 hf => ?_)
  refine E_aload_n (pc := 30) O 0 dX4_init_30 rfl rfl ?_
  refine E_bipush (pc := 31) O (8 : Int32) dX4_init_31 (by decide) ?_
  refine E_newaI (pc := 33) O (aw1 43 (by decide +kernel) rfl) dX4_init_33 (by decide) (by decide) (Nat.le_of_ble_eq_true rfl) hf ⟨(Nat.le_of_ble_eq_true rfl), (Nat.le_of_ble_eq_true rfl)⟩ (fun h7 hf => ?_)
  show EE K (true, 4, 1664) _ _ _ _
  refine E_putF (pc := 35) O FF_RailSequenceModel_19 hn rfl rfl dX4_init_35 hf (fun h8 hf => ?_)
  refine E_aload_n (pc := 38) O 0 dX4_init_38 rfl rfl ?_
  refine E_sipush (pc := 39) O (228 : Int32) dX4_init_39 (by decide) ?_
  refine E_newaI (pc := 42) O (aw1 43 (by decide +kernel) rfl) dX4_init_42 (by decide) (by decide) (Nat.le_of_ble_eq_true rfl) hf ⟨(Nat.le_of_ble_eq_true rfl), (Nat.le_of_ble_eq_true rfl)⟩ (fun h9 hf => ?_)
  show EE K (true, 5, 1892) _ _ _ _
  refine E_putF (pc := 44) O FF_RailSequenceModel_22 hn rfl rfl dX4_init_44 hf (fun h10 hf => ?_)
  refine E_aload_n (pc := 47) O 0 dX4_init_47 rfl rfl ?_
  refine E_bipush (pc := 48) O (64 : Int32) dX4_init_48 (by decide) ?_
  refine E_newaI (pc := 50) O (aw1 43 (by decide +kernel) rfl) dX4_init_50 (by decide) (by decide) (Nat.le_of_ble_eq_true rfl) hf ⟨(Nat.le_of_ble_eq_true rfl), (Nat.le_of_ble_eq_true rfl)⟩ (fun h11 hf => ?_)
  show EE K (true, 6, 1956) _ _ _ _
  refine E_putF (pc := 52) O FF_RailSequenceModel_25 hn rfl rfl dX4_init_52 hf (fun h12 hf => ?_)
  refine E_aload_n (pc := 55) O 0 dX4_init_55 rfl rfl ?_
  refine E_getR (pc := 56) O FL_RailSequenceModel_7 dX4_init_56 hf (fun v13 hf => ?_)
  refine E_iconst (pc := 59) O (1 : Int32) dX4_init_59 (by decide) ?_
  refine E_bipush (pc := 60) O (100 : Int32) dX4_init_60 (by decide) ?_
  refine E_iastore (pc := 62) O dX4_init_62 hf (fun h14 hf => ?_)
  exact E_vret (pc := 63) O Z hf ⟨(Nat.le_of_ble_eq_true rfl), (Nat.le_of_ble_eq_true rfl)⟩ dX4_init_63
set_option maxHeartbeats 4000000 in
set_option maxRecDepth 100000 in
theorem t_X4_thrown {g : Gx} {fr : Bool} {h : MH} {x0} {out : Int32} (hf : f_X4_thrown h x0 = some out) : MM g yX4_thrown cX4_thrown 1 (some .int) 0 0 0 0 fr fr [.ref x0] h (some (.int out)) h := by
  unfold f_X4_thrown at hf
  refine MM_of (L := [some (.ref x0)]) (by decide) (Nat.le_of_ble_eq_true rfl) rfl (fun K hK O Z hn => ?_)
  refine E_aload_n (pc := 0) O 0 dX4_thrown_0 rfl rfl ?_
  refine E_getI (pc := 1) O FL_RailSequenceModel_28 dX4_thrown_1 hf (fun v1 hf => ?_)
  exact E_iretP (pc := 4) O Z hf ⟨(Nat.le_of_ble_eq_true rfl), (Nat.le_of_ble_eq_true rfl)⟩ dX4_thrown_4
set_option maxHeartbeats 4000000 in
set_option maxRecDepth 100000 in
theorem t_b_X4_within_15 {K : Cx} {fr : Bool} {out : Int32} {h : MH} (O : Ok K yX4_within.cls cX4_within 3 (rmm 0 0 0 0)) (Z : Out K (some .boolean) fr (some (.int out)) h) (s0 : Int32) (hf : b_X4_within_15 h s0 = some out) : EE K (fr, 0, 0) 15 [none, none, none] [.int s0] h := by
  unfold b_X4_within_15 at hf
  exact E_zretP (pc := 15) O Z hf ⟨(Nat.le_of_ble_eq_true rfl), (Nat.le_of_ble_eq_true rfl)⟩ dX4_within_15
set_option maxHeartbeats 4000000 in
set_option maxRecDepth 100000 in
theorem t_b_X4_within_14 {K : Cx} {fr : Bool} {out : Int32} {h : MH} (O : Ok K yX4_within.cls cX4_within 3 (rmm 0 0 0 0)) (Z : Out K (some .boolean) fr (some (.int out)) h)  (hf : b_X4_within_14 h  = some out) : EE K (fr, 0, 0) 14 [none, none, none] [] h := by
  unfold b_X4_within_14 at hf
  refine E_iconst (pc := 14) O (0 : Int32) dX4_within_14 (by decide) ?_
  exact t_b_X4_within_15 O Z (0 : Int32) hf
set_option maxHeartbeats 4000000 in
set_option maxRecDepth 100000 in
theorem t_X4_within {g : Gx} {fr : Bool} {h : MH} {x0 x1 x2} {out : Int32} (hf : f_X4_within h x0 x1 x2 = some out) : MM g yX4_within cX4_within 3 (some .boolean) 0 0 0 0 fr fr [.int x0, .int x1, .int x2] h (some (.int out)) h := by
  unfold f_X4_within at hf
  refine MM_of (L := [some (.int x0), some (.int x1), some (.int x2)]) (by decide) (Nat.le_of_ble_eq_true rfl) rfl (fun K hK O Z hn => ?_)
  refine E_iload_n (pc := 0) O 0 dX4_within_0 rfl rfl ?_
  refine E_iload_n (pc := 1) O 1 dX4_within_1 rfl rfl ?_
  refine E_icmp_lt (pc := 2) O 14 dX4_within_2 (by decide) hf (fun hf => ?_) (fun hf => ?_)
  · exact E_sub (L' := [none, none, none]) True.intro (t_b_X4_within_14 O Z  hf)
  · refine E_iload_n (pc := 5) O 0 dX4_within_5 rfl rfl ?_
    refine E_iload_n (pc := 6) O 2 dX4_within_6 rfl rfl ?_
    refine E_icmp_gt (pc := 7) O 14 dX4_within_7 (by decide) hf (fun hf => ?_) (fun hf => ?_)
    · exact E_sub (L' := [none, none, none]) True.intro (t_b_X4_within_14 O Z  hf)
    · refine E_iconst (pc := 10) O (1 : Int32) dX4_within_10 (by decide) ?_
      refine E_goto (pc := 11) O 15 dX4_within_11 (by decide) ?_
      exact E_sub (L' := [none, none, none]) True.intro (t_b_X4_within_15 O Z (1 : Int32) hf)
set_option maxHeartbeats 4000000 in
set_option maxRecDepth 100000 in
theorem t_X4_of {g : Gx} {fr : Bool} {h : MH} {x0 x1 x2} {out : Int32} (hf : f_X4_of h x0 x1 x2 = some out) : MM g yX4_of cX4_of 3 (some .int) 0 0 0 0 fr fr [.ref x0, .int x1, .int x2] h (some (.int out)) h := by
  unfold f_X4_of at hf
  refine MM_of (L := [some (.ref x0), some (.int x1), some (.int x2)]) (by decide) (Nat.le_of_ble_eq_true rfl) rfl (fun K hK O Z hn => ?_)
  refine E_aload_n (pc := 0) O 0 dX4_of_0 rfl rfl ?_
  refine E_getR (pc := 1) O FL_RailSequenceModel_7 dX4_of_1 hf (fun v1 hf => ?_)
  refine E_bipush (pc := 4) O (68 : Int32) dX4_of_4 (by decide) ?_
  refine E_bipush (pc := 6) O (20 : Int32) dX4_of_6 (by decide) ?_
  refine E_iload_n (pc := 8) O 1 dX4_of_8 rfl rfl ?_
  refine E_imul (pc := 9) O dX4_of_9 ?_
  refine E_iadd (pc := 10) O dX4_of_10 ?_
  refine E_iload_n (pc := 11) O 2 dX4_of_11 rfl rfl ?_
  refine E_iadd (pc := 12) O dX4_of_12 ?_
  refine E_iaload (pc := 13) O dX4_of_13 hf (fun v2 hf => ?_)
  exact E_iretP (pc := 14) O Z hf ⟨(Nat.le_of_ble_eq_true rfl), (Nat.le_of_ble_eq_true rfl)⟩ dX4_of_14
set_option maxHeartbeats 4000000 in
set_option maxRecDepth 100000 in
theorem t_X4_lay {g : Gx} {fr : Bool} {h : MH} {x0 x1 x2 x3} {out : MH} (hf : f_X4_lay h x0 x1 x2 x3 = some out) : MM g yX4_lay cX4_lay 4 none 0 0 0 0 fr fr [.ref x0, .int x1, .int x2, .int x3] h none out := by
  unfold f_X4_lay at hf
  refine MM_of (L := [some (.ref x0), some (.int x1), some (.int x2), some (.int x3)]) (by decide) (Nat.le_of_ble_eq_true rfl) rfl (fun K hK O Z hn => ?_)
  refine E_aload_n (pc := 0) O 0 dX4_lay_0 rfl rfl ?_
  refine E_getR (pc := 1) O FL_RailSequenceModel_7 dX4_lay_1 hf (fun v1 hf => ?_)
  refine E_bipush (pc := 4) O (68 : Int32) dX4_lay_4 (by decide) ?_
  refine E_bipush (pc := 6) O (20 : Int32) dX4_lay_6 (by decide) ?_
  refine E_iload_n (pc := 8) O 1 dX4_lay_8 rfl rfl ?_
  refine E_imul (pc := 9) O dX4_lay_9 ?_
  refine E_iadd (pc := 10) O dX4_lay_10 ?_
  refine E_iload_n (pc := 11) O 2 dX4_lay_11 rfl rfl ?_
  refine E_iadd (pc := 12) O dX4_lay_12 ?_
  refine E_iload_n (pc := 13) O 3 dX4_lay_13 rfl rfl ?_
  refine E_iastore (pc := 14) O dX4_lay_14 hf (fun h2 hf => ?_)
  exact E_vret (pc := 15) O Z hf ⟨(Nat.le_of_ble_eq_true rfl), (Nat.le_of_ble_eq_true rfl)⟩ dX4_lay_15
set_option maxHeartbeats 4000000 in
set_option maxRecDepth 100000 in
theorem t_X4_add {g : Gx} {fr : Bool} {h : MH} {x0 x1 x2} {out : MH} (hf : f_X4_add h x0 x1 x2 = some out) : MM g yX4_add cX4_add 3 none 0 0 0 0 fr fr [.ref x0, .int x1, .int x2] h none out := by
  unfold f_X4_add at hf
  refine MM_of (L := [some (.ref x0), some (.int x1), some (.int x2)]) (by decide) (Nat.le_of_ble_eq_true rfl) rfl (fun K hK O Z hn => ?_)
  refine E_aload_n (pc := 0) O 0 dX4_add_0 rfl rfl ?_
  refine E_getR (pc := 1) O FL_RailSequenceModel_7 dX4_add_1 hf (fun v1 hf => ?_)
  refine E_bipush (pc := 4) O (68 : Int32) dX4_add_4 (by decide) ?_
  refine E_bipush (pc := 6) O (20 : Int32) dX4_add_6 (by decide) ?_
  refine E_iload_n (pc := 8) O 1 dX4_add_8 rfl rfl ?_
  refine E_imul (pc := 9) O dX4_add_9 ?_
  refine E_iadd (pc := 10) O dX4_add_10 ?_
  refine E_iload_n (pc := 11) O 2 dX4_add_11 rfl rfl ?_
  refine E_iadd (pc := 12) O dX4_add_12 ?_
  refine E_dup2 (pc := 13) O dX4_add_13 rfl rfl ?_
  refine E_iaload (pc := 14) O dX4_add_14 hf (fun v2 hf => ?_)
  refine E_iconst (pc := 15) O (1 : Int32) dX4_add_15 (by decide) ?_
  refine E_iadd (pc := 16) O dX4_add_16 ?_
  refine E_iastore (pc := 17) O dX4_add_17 hf (fun h3 hf => ?_)
  exact E_vret (pc := 18) O Z hf ⟨(Nat.le_of_ble_eq_true rfl), (Nat.le_of_ble_eq_true rfl)⟩ dX4_add_18
set_option maxHeartbeats 4000000 in
set_option maxRecDepth 100000 in
theorem t_X4_isRail {g : Gx} {fr : Bool} {h : MH} {x0 x1} {out : Int32} (hf : f_X4_isRail h x0 x1 = some out) : MM g yX4_isRail cX4_isRail 2 (some .boolean) 1 22 0 0 fr fr [.ref x0, .int x1] h (some (.int out)) h := by
  unfold f_X4_isRail at hf
  refine MM_of (L := [some (.ref x0), some (.int x1)]) (by decide) (Nat.le_of_ble_eq_true rfl) rfl (fun K hK O Z hn => ?_)
  refine E_iload_n (pc := 0) O 1 dX4_isRail_0 rfl rfl ?_
  refine E_iconst (pc := 1) O (0 : Int32) dX4_isRail_1 (by decide) ?_
  refine E_aload_n (pc := 2) O 0 dX4_isRail_2 rfl rfl ?_
  refine E_getR (pc := 3) O FL_RailSequenceModel_7 dX4_isRail_3 hf (fun v1 hf => ?_)
  refine E_iconst (pc := 6) O (0 : Int32) dX4_isRail_6 (by decide) ?_
  refine E_iaload (pc := 7) O dX4_isRail_7 hf (fun v2 hf => ?_)
  refine E_iconst (pc := 8) O (1 : Int32) dX4_isRail_8 (by decide) ?_
  refine E_isub (pc := 9) O dX4_isRail_9 ?_
  refine E_callS_iP (pc := 10) (S := []) O [.int x1, .int (0 : Int32), .int (v2 - (1 : Int32))] CS_RailSequenceModel_32 (fun r e => t_X4_within e) dX4_isRail_10 hf rfl ⟨(Nat.le_of_ble_eq_true rfl), (Nat.le_of_ble_eq_true rfl)⟩ ⟨(Nat.le_of_ble_eq_true rfl), (Nat.le_of_ble_eq_true rfl)⟩ (Nat.le_of_ble_eq_true rfl) (fun v3 hf => ?_)
  exact E_zretP (pc := 13) O Z hf ⟨(Nat.le_of_ble_eq_true rfl), (Nat.le_of_ble_eq_true rfl)⟩ dX4_isRail_13
set_option maxHeartbeats 4000000 in
set_option maxRecDepth 100000 in
theorem t_b_X4_has_14 {K : Cx} {fr : Bool} {out : Int32} {h : MH} (O : Ok K yX4_has.cls cX4_has 2 (rmm 0 0 0 0)) (Z : Out K (some .boolean) fr (some (.int out)) h) (s0 : Int32) (hf : b_X4_has_14 h s0 = some out) : EE K (fr, 0, 0) 14 [none, none] [.int s0] h := by
  unfold b_X4_has_14 at hf
  exact E_zretP (pc := 14) O Z hf ⟨(Nat.le_of_ble_eq_true rfl), (Nat.le_of_ble_eq_true rfl)⟩ dX4_has_14
set_option maxHeartbeats 4000000 in
set_option maxRecDepth 100000 in
theorem t_X4_has {g : Gx} {fr : Bool} {h : MH} {x0 x1} {out : Int32} (hf : f_X4_has h x0 x1 = some out) : MM g yX4_has cX4_has 2 (some .boolean) 0 0 0 0 fr fr [.int x0, .int x1] h (some (.int out)) h := by
  unfold f_X4_has at hf
  refine MM_of (L := [some (.int x0), some (.int x1)]) (by decide) (Nat.le_of_ble_eq_true rfl) rfl (fun K hK O Z hn => ?_)
  refine E_iload_n (pc := 0) O 0 dX4_has_0 rfl rfl ?_
  refine E_iload_n (pc := 1) O 1 dX4_has_1 rfl rfl ?_
  refine E_ishr (pc := 2) O dX4_has_2 ?_
  refine E_iconst (pc := 3) O (1 : Int32) dX4_has_3 (by decide) ?_
  refine E_iand (pc := 4) O dX4_has_4 ?_
  refine E_iconst (pc := 5) O (1 : Int32) dX4_has_5 (by decide) ?_
  refine E_icmp_ne (pc := 6) O 13 dX4_has_6 (by decide) hf (fun hf => ?_) (fun hf => ?_)
  · refine E_iconst (pc := 13) O (0 : Int32) dX4_has_13 (by decide) ?_
    exact E_sub (L' := [none, none]) True.intro (t_b_X4_has_14 O Z (0 : Int32) hf)
  · refine E_iconst (pc := 9) O (1 : Int32) dX4_has_9 (by decide) ?_
    refine E_goto (pc := 10) O 14 dX4_has_10 (by decide) ?_
    exact E_sub (L' := [none, none]) True.intro (t_b_X4_has_14 O Z (1 : Int32) hf)
set_option maxHeartbeats 4000000 in
set_option maxRecDepth 100000 in
theorem t_X4_allRails {g : Gx} {fr : Bool} {h : MH} {x0} {out : Int32} (hf : f_X4_allRails h x0 = some out) : MM g yX4_allRails cX4_allRails 1 (some .int) 0 0 0 0 fr fr [.ref x0] h (some (.int out)) h := by
  unfold f_X4_allRails at hf
  refine MM_of (L := [some (.ref x0)]) (by decide) (Nat.le_of_ble_eq_true rfl) rfl (fun K hK O Z hn => ?_)
  refine E_iconst (pc := 0) O (1 : Int32) dX4_allRails_0 (by decide) ?_
  refine E_aload_n (pc := 1) O 0 dX4_allRails_1 rfl rfl ?_
  refine E_getR (pc := 2) O FL_RailSequenceModel_7 dX4_allRails_2 hf (fun v1 hf => ?_)
  refine E_iconst (pc := 5) O (0 : Int32) dX4_allRails_5 (by decide) ?_
  refine E_iaload (pc := 6) O dX4_allRails_6 hf (fun v2 hf => ?_)
  refine E_ishl (pc := 7) O dX4_allRails_7 ?_
  refine E_iconst (pc := 8) O (1 : Int32) dX4_allRails_8 (by decide) ?_
  refine E_isub (pc := 9) O dX4_allRails_9 ?_
  exact E_iretP (pc := 10) O Z hf ⟨(Nat.le_of_ble_eq_true rfl), (Nat.le_of_ble_eq_true rfl)⟩ dX4_allRails_10
set_option maxHeartbeats 4000000 in
set_option maxRecDepth 100000 in
theorem t_b_X4_isMask_16 {K : Cx} {fr : Bool} {out : Int32} {h : MH} (O : Ok K yX4_isMask.cls cX4_isMask 3 (rmm 0 0 0 0)) (Z : Out K (some .boolean) fr (some (.int out)) h) (s0 : Int32) (hf : b_X4_isMask_16 h s0 = some out) : EE K (fr, 0, 0) 16 [none, none, none] [.int s0] h := by
  unfold b_X4_isMask_16 at hf
  exact E_zretP (pc := 16) O Z hf ⟨(Nat.le_of_ble_eq_true rfl), (Nat.le_of_ble_eq_true rfl)⟩ dX4_isMask_16
set_option maxHeartbeats 4000000 in
set_option maxRecDepth 100000 in
theorem t_b_X4_isMask_15 {K : Cx} {fr : Bool} {out : Int32} {h : MH} (O : Ok K yX4_isMask.cls cX4_isMask 3 (rmm 0 0 0 0)) (Z : Out K (some .boolean) fr (some (.int out)) h)  (hf : b_X4_isMask_15 h  = some out) : EE K (fr, 0, 0) 15 [none, none, none] [] h := by
  unfold b_X4_isMask_15 at hf
  refine E_iconst (pc := 15) O (0 : Int32) dX4_isMask_15 (by decide) ?_
  exact t_b_X4_isMask_16 O Z (0 : Int32) hf
set_option maxHeartbeats 4000000 in
set_option maxRecDepth 100000 in
theorem t_X4_isMask {g : Gx} {fr : Bool} {h : MH} {x0 x1 x2} {out : Int32} (hf : f_X4_isMask h x0 x1 x2 = some out) : MM g yX4_isMask cX4_isMask 3 (some .boolean) 0 0 0 0 fr fr [.ref x0, .int x1, .int x2] h (some (.int out)) h := by
  unfold f_X4_isMask at hf
  refine MM_of (L := [some (.ref x0), some (.int x1), some (.int x2)]) (by decide) (Nat.le_of_ble_eq_true rfl) rfl (fun K hK O Z hn => ?_)
  refine E_iload_n (pc := 0) O 1 dX4_isMask_0 rfl rfl ?_
  refine E_if_lt (pc := 1) O 15 dX4_isMask_1 (by decide) hf (fun hf => ?_) (fun hf => ?_)
  · exact E_sub (L' := [none, none, none]) True.intro (t_b_X4_isMask_15 O Z  hf)
  · refine E_iload_n (pc := 4) O 1 dX4_isMask_4 rfl rfl ?_
    refine E_iconst (pc := 5) O (1 : Int32) dX4_isMask_5 (by decide) ?_
    refine E_iload_n (pc := 6) O 2 dX4_isMask_6 rfl rfl ?_
    refine E_ishl (pc := 7) O dX4_isMask_7 ?_
    refine E_icmp_ge (pc := 8) O 15 dX4_isMask_8 (by decide) hf (fun hf => ?_) (fun hf => ?_)
    · exact E_sub (L' := [none, none, none]) True.intro (t_b_X4_isMask_15 O Z  hf)
    · refine E_iconst (pc := 11) O (1 : Int32) dX4_isMask_11 (by decide) ?_
      refine E_goto (pc := 12) O 16 dX4_isMask_12 (by decide) ?_
      exact E_sub (L' := [none, none, none]) True.intro (t_b_X4_isMask_16 O Z (1 : Int32) hf)
set_option maxHeartbeats 4000000 in
set_option maxRecDepth 100000 in
theorem t_b_X4_isDischarged_21 {K : Cx} {fr : Bool} {out : Int32} {h : MH} (O : Ok K yX4_isDischarged.cls cX4_isDischarged 2 (rmm 1 22 0 0)) (Z : Out K (some .boolean) fr (some (.int out)) h) (s0 : Int32) (hf : b_X4_isDischarged_21 h s0 = some out) : EE K (fr, 0, 0) 21 [none, none] [.int s0] h := by
  unfold b_X4_isDischarged_21 at hf
  exact E_zretP (pc := 21) O Z hf ⟨(Nat.le_of_ble_eq_true rfl), (Nat.le_of_ble_eq_true rfl)⟩ dX4_isDischarged_21
set_option maxHeartbeats 4000000 in
set_option maxRecDepth 100000 in
theorem t_X4_isDischarged {g : Gx} {fr : Bool} {h : MH} {x0 x1} {out : Int32} (hf : f_X4_isDischarged h x0 x1 = some out) : MM g yX4_isDischarged cX4_isDischarged 2 (some .boolean) 1 22 0 0 fr fr [.ref x0, .int x1] h (some (.int out)) h := by
  unfold f_X4_isDischarged at hf
  refine MM_of (L := [some (.ref x0), some (.int x1)]) (by decide) (Nat.le_of_ble_eq_true rfl) rfl (fun K hK O Z hn => ?_)
  refine E_aload_n (pc := 0) O 0 dX4_isDischarged_0 rfl rfl ?_
  refine E_iload_n (pc := 1) O 1 dX4_isDischarged_1 rfl rfl ?_
  refine E_bipush (pc := 2) O (10 : Int32) dX4_isDischarged_2 (by decide) ?_
  refine E_callV_iP (pc := 4) (S := []) O [.int x1, .int (10 : Int32)] CV_RailSequenceModel_36 rfl (fun r e => t_X4_of e) dX4_isDischarged_4 hf rfl ⟨(Nat.le_of_ble_eq_true rfl), (Nat.le_of_ble_eq_true rfl)⟩ ⟨(Nat.le_of_ble_eq_true rfl), (Nat.le_of_ble_eq_true rfl)⟩ (Nat.le_of_ble_eq_true rfl) (fun v1 hf => ?_)
  refine E_aload_n (pc := 7) O 0 dX4_isDischarged_7 rfl rfl ?_
  refine E_getR (pc := 8) O FL_RailSequenceModel_7 dX4_isDischarged_8 hf (fun v2 hf => ?_)
  refine E_iconst (pc := 11) O (1 : Int32) dX4_isDischarged_11 (by decide) ?_
  refine E_iaload (pc := 12) O dX4_isDischarged_12 hf (fun v3 hf => ?_)
  refine E_icmp_gt (pc := 13) O 20 dX4_isDischarged_13 (by decide) hf (fun hf => ?_) (fun hf => ?_)
  · refine E_iconst (pc := 20) O (0 : Int32) dX4_isDischarged_20 (by decide) ?_
    exact E_sub (L' := [none, none]) True.intro (t_b_X4_isDischarged_21 O Z (0 : Int32) hf)
  · refine E_iconst (pc := 16) O (1 : Int32) dX4_isDischarged_16 (by decide) ?_
    refine E_goto (pc := 17) O 21 dX4_isDischarged_17 (by decide) ?_
    exact E_sub (L' := [none, none]) True.intro (t_b_X4_isDischarged_21 O Z (1 : Int32) hf)
set_option maxHeartbeats 4000000 in
set_option maxRecDepth 100000 in
theorem t_b_X4_isFlag_62 {K : Cx} {fr : Bool} {out : Int32} {h : MH} (O : Ok K yX4_isFlag.cls cX4_isFlag 3 (rmm 1 22 0 0)) (Z : Out K (some .boolean) fr (some (.int out)) h) (s0 : Int32) (hf : b_X4_isFlag_62 h s0 = some out) : EE K (fr, 0, 0) 62 [none, none, none] [.int s0] h := by
  unfold b_X4_isFlag_62 at hf
  exact E_zretP (pc := 62) O Z hf ⟨(Nat.le_of_ble_eq_true rfl), (Nat.le_of_ble_eq_true rfl)⟩ dX4_isFlag_62
set_option maxHeartbeats 4000000 in
set_option maxRecDepth 100000 in
theorem t_b_X4_isFlag_31 {K : Cx} {fr : Bool} {out : Int32} {h : MH} (O : Ok K yX4_isFlag.cls cX4_isFlag 3 (rmm 1 22 0 0)) (Z : Out K (some .boolean) fr (some (.int out)) h) (x0 : Nat) (x1 : Int32) (s0 : Int32) (hf : b_X4_isFlag_31 h x0 x1 s0 = some out) : EE K (fr, 0, 0) 31 [some (.ref x0), some (.int x1), none] [.int s0] h := by
  unfold b_X4_isFlag_31 at hf
  refine E_istore_n (pc := 31) O 2 [some (.ref x0), some (.int x1), some (.int s0)] dX4_isFlag_31 rfl (by decide) rfl rfl ?_
  refine E_aload_n (pc := 32) O 0 dX4_isFlag_32 rfl rfl ?_
  refine E_iload_n (pc := 33) O 1 dX4_isFlag_33 rfl rfl ?_
  refine E_bipush (pc := 34) O (11 : Int32) dX4_isFlag_34 (by decide) ?_
  refine E_callV_iP (pc := 36) (S := []) O [.int x1, .int (11 : Int32)] CV_RailSequenceModel_36 rfl (fun r e => t_X4_of e) dX4_isFlag_36 hf rfl ⟨(Nat.le_of_ble_eq_true rfl), (Nat.le_of_ble_eq_true rfl)⟩ ⟨(Nat.le_of_ble_eq_true rfl), (Nat.le_of_ble_eq_true rfl)⟩ (Nat.le_of_ble_eq_true rfl) (fun v1 hf => ?_)
  refine E_if_ne (pc := 39) O 46 dX4_isFlag_39 (by decide) hf (fun hf => ?_) (fun hf => ?_)
  · refine E_aload_n (pc := 46) O 0 dX4_isFlag_46 rfl rfl ?_
    refine E_iload_n (pc := 47) O 1 dX4_isFlag_47 rfl rfl ?_
    refine E_bipush (pc := 48) O (11 : Int32) dX4_isFlag_48 (by decide) ?_
    refine E_callV_iP (pc := 50) (S := []) O [.int x1, .int (11 : Int32)] CV_RailSequenceModel_36 rfl (fun r e => t_X4_of e) dX4_isFlag_50 hf rfl ⟨(Nat.le_of_ble_eq_true rfl), (Nat.le_of_ble_eq_true rfl)⟩ ⟨(Nat.le_of_ble_eq_true rfl), (Nat.le_of_ble_eq_true rfl)⟩ (Nat.le_of_ble_eq_true rfl) (fun v2 hf => ?_)
    refine E_iconst (pc := 53) O (2 : Int32) dX4_isFlag_53 (by decide) ?_
    refine E_icmp_ne (pc := 54) O 61 dX4_isFlag_54 (by decide) hf (fun hf => ?_) (fun hf => ?_)
    · refine E_iconst (pc := 61) O (0 : Int32) dX4_isFlag_61 (by decide) ?_
      exact E_sub (L' := [none, none, none]) True.intro (t_b_X4_isFlag_62 O Z (0 : Int32) hf)
    · refine E_iconst (pc := 57) O (1 : Int32) dX4_isFlag_57 (by decide) ?_
      refine E_goto (pc := 58) O 62 dX4_isFlag_58 (by decide) ?_
      exact E_sub (L' := [none, none, none]) True.intro (t_b_X4_isFlag_62 O Z (1 : Int32) hf)
  · refine E_iload_n (pc := 42) O 2 dX4_isFlag_42 rfl rfl ?_
    refine E_goto (pc := 43) O 62 dX4_isFlag_43 (by decide) ?_
    exact E_sub (L' := [none, none, none]) True.intro (t_b_X4_isFlag_62 O Z s0 hf)
set_option maxHeartbeats 4000000 in
set_option maxRecDepth 100000 in
theorem t_X4_isFlag {g : Gx} {fr : Bool} {h : MH} {x0 x1} {out : Int32} (hf : f_X4_isFlag h x0 x1 = some out) : MM g yX4_isFlag cX4_isFlag 3 (some .boolean) 1 22 0 0 fr fr [.ref x0, .int x1] h (some (.int out)) h := by
  unfold f_X4_isFlag at hf
  refine MM_of (L := [some (.ref x0), some (.int x1), none]) (by decide) (Nat.le_of_ble_eq_true rfl) rfl (fun K hK O Z hn => ?_)
  refine E_aload_n (pc := 0) O 0 dX4_isFlag_0 rfl rfl ?_
  refine E_iload_n (pc := 1) O 1 dX4_isFlag_1 rfl rfl ?_
  refine E_bipush (pc := 2) O (10 : Int32) dX4_isFlag_2 (by decide) ?_
  refine E_callV_iP (pc := 4) (S := []) O [.int x1, .int (10 : Int32)] CV_RailSequenceModel_36 rfl (fun r e => t_X4_of e) dX4_isFlag_4 hf rfl ⟨(Nat.le_of_ble_eq_true rfl), (Nat.le_of_ble_eq_true rfl)⟩ ⟨(Nat.le_of_ble_eq_true rfl), (Nat.le_of_ble_eq_true rfl)⟩ (Nat.le_of_ble_eq_true rfl) (fun v3 hf => ?_)
  refine E_bipush (pc := 7) O (100 : Int32) dX4_isFlag_7 (by decide) ?_
  refine E_imul (pc := 9) O dX4_isFlag_9 ?_
  refine E_aload_n (pc := 10) O 0 dX4_isFlag_10 rfl rfl ?_
  refine E_iload_n (pc := 11) O 1 dX4_isFlag_11 rfl rfl ?_
  refine E_iconst (pc := 12) O (0 : Int32) dX4_isFlag_12 (by decide) ?_
  refine E_callV_iP (pc := 13) (S := [.int (v3 * (100 : Int32))]) O [.int x1, .int (0 : Int32)] CV_RailSequenceModel_36 rfl (fun r e => t_X4_of e) dX4_isFlag_13 hf rfl ⟨(Nat.le_of_ble_eq_true rfl), (Nat.le_of_ble_eq_true rfl)⟩ ⟨(Nat.le_of_ble_eq_true rfl), (Nat.le_of_ble_eq_true rfl)⟩ (Nat.le_of_ble_eq_true rfl) (fun v4 hf => ?_)
  refine E_aload_n (pc := 16) O 0 dX4_isFlag_16 rfl rfl ?_
  refine E_iload_n (pc := 17) O 1 dX4_isFlag_17 rfl rfl ?_
  refine E_iconst (pc := 18) O (3 : Int32) dX4_isFlag_18 (by decide) ?_
  refine E_callV_iP (pc := 19) (S := [.int v4, .int (v3 * (100 : Int32))]) O [.int x1, .int (3 : Int32)] CV_RailSequenceModel_36 rfl (fun r e => t_X4_of e) dX4_isFlag_19 hf rfl ⟨(Nat.le_of_ble_eq_true rfl), (Nat.le_of_ble_eq_true rfl)⟩ ⟨(Nat.le_of_ble_eq_true rfl), (Nat.le_of_ble_eq_true rfl)⟩ (Nat.le_of_ble_eq_true rfl) (fun v5 hf => ?_)
  refine E_imul (pc := 22) O dX4_isFlag_22 ?_
  refine E_icmp_lt (pc := 23) O 30 dX4_isFlag_23 (by decide) hf (fun hf => ?_) (fun hf => ?_)
  · refine E_iconst (pc := 30) O (0 : Int32) dX4_isFlag_30 (by decide) ?_
    exact t_b_X4_isFlag_31 O Z x0 x1 (0 : Int32) hf
  · refine E_iconst (pc := 26) O (1 : Int32) dX4_isFlag_26 (by decide) ?_
    refine E_goto (pc := 27) O 31 dX4_isFlag_27 (by decide) ?_
    exact t_b_X4_isFlag_31 O Z x0 x1 (1 : Int32) hf
set_option maxHeartbeats 4000000 in
set_option maxRecDepth 100000 in
theorem t_b_X4_followers_38 {K : Cx} {fr : Bool} {out : Int32} {h : MH} (O : Ok K yX4_followers.cls cX4_followers 4 (rmm 1 22 0 0)) (Z : Out K (some .int) fr (some (.int out)) h) (rec8 : Nat → Int32 → Int32 → Int32 → Option Int32) (hr8 : ∀ (x0 : Nat) (x1 : Int32) (x2 : Int32) (x3 : Int32), rec8 x0 x1 x2 x3 = some out → EE K (fr, 0, 0) 8 [some (.ref x0), some (.int x1), some (.int x2), some (.int x3)] [] h) (x0 : Nat) (x1 : Int32) (x3 : Int32) (s0 : Int32) (s1 : Int32) (hf : b_X4_followers_38 h rec8 x0 x1 x3 s0 s1 = some out) : EE K (fr, 0, 0) 38 [some (.ref x0), some (.int x1), none, some (.int x3)] [.int s1, .int s0] h := by
  unfold b_X4_followers_38 at hf
  refine E_ior (pc := 38) O dX4_followers_38 ?_
  obtain ⟨v1, ev1, hf⟩ := ob hf
  have ev1 := os ev1
  rw [ev1]
  refine E_istore_n (pc := 39) O 2 [some (.ref x0), some (.int x1), some (.int v1), some (.int x3)] dX4_followers_39 rfl (by decide) rfl rfl ?_
  refine E_iinc (pc := 40) O (1 : Int32) [some (.ref x0), some (.int x1), some (.int v1), some (.int (x3 + (1 : Int32)))] dX4_followers_40 rfl (by decide) rfl (by decide) rfl ?_
  refine E_goto (pc := 43) O 8 dX4_followers_43 (by decide) ?_
  exact hr8 x0 x1 v1 (x3 + (1 : Int32)) hf
set_option maxHeartbeats 4000000 in
set_option maxRecDepth 100000 in
theorem t_b_X4_followers_8 {K : Cx} {fr : Bool} {out : Int32} {h : MH} (O : Ok K yX4_followers.cls cX4_followers 4 (rmm 1 22 0 0)) (Z : Out K (some .int) fr (some (.int out)) h) (rec8 : Nat → Int32 → Int32 → Int32 → Option Int32) (hr8 : ∀ (x0 : Nat) (x1 : Int32) (x2 : Int32) (x3 : Int32), rec8 x0 x1 x2 x3 = some out → EE K (fr, 0, 0) 8 [some (.ref x0), some (.int x1), some (.int x2), some (.int x3)] [] h) (x0 : Nat) (x1 : Int32) (x2 : Int32) (x3 : Int32) (hf : b_X4_followers_8 h rec8 x0 x1 x2 x3 = some out) : EE K (fr, 0, 0) 8 [some (.ref x0), some (.int x1), some (.int x2), some (.int x3)] [] h := by
  unfold b_X4_followers_8 at hf
  refine E_iload_n (pc := 8) O 3 dX4_followers_8 rfl rfl ?_
  refine E_aload_n (pc := 9) O 0 dX4_followers_9 rfl rfl ?_
  refine E_getR (pc := 10) O FL_RailSequenceModel_7 dX4_followers_10 hf (fun v2 hf => ?_)
  refine E_iconst (pc := 13) O (0 : Int32) dX4_followers_13 (by decide) ?_
  refine E_iaload (pc := 14) O dX4_followers_14 hf (fun v3 hf => ?_)
  refine E_icmp_ge (pc := 15) O 46 dX4_followers_15 (by decide) hf (fun hf => ?_) (fun hf => ?_)
  · refine E_iload_n (pc := 46) O 2 dX4_followers_46 rfl rfl ?_
    refine E_iconst (pc := 47) O (1 : Int32) dX4_followers_47 (by decide) ?_
    refine E_iload_n (pc := 48) O 1 dX4_followers_48 rfl rfl ?_
    refine E_ishl (pc := 49) O dX4_followers_49 ?_
    refine E_isub (pc := 50) O dX4_followers_50 ?_
    exact E_iretP (pc := 51) O Z hf ⟨(Nat.le_of_ble_eq_true rfl), (Nat.le_of_ble_eq_true rfl)⟩ dX4_followers_51
  · refine E_iload_n (pc := 18) O 2 dX4_followers_18 rfl rfl ?_
    refine E_aload_n (pc := 19) O 0 dX4_followers_19 rfl rfl ?_
    refine E_iload_n (pc := 20) O 3 dX4_followers_20 rfl rfl ?_
    refine E_bipush (pc := 21) O (7 : Int32) dX4_followers_21 (by decide) ?_
    refine E_callV_iP (pc := 23) (S := [.int x2]) O [.int x3, .int (7 : Int32)] CV_RailSequenceModel_36 rfl (fun r e => t_X4_of e) dX4_followers_23 hf rfl ⟨(Nat.le_of_ble_eq_true rfl), (Nat.le_of_ble_eq_true rfl)⟩ ⟨(Nat.le_of_ble_eq_true rfl), (Nat.le_of_ble_eq_true rfl)⟩ (Nat.le_of_ble_eq_true rfl) (fun v4 hf => ?_)
    refine E_iload_n (pc := 26) O 2 dX4_followers_26 rfl rfl ?_
    refine E_iand (pc := 27) O dX4_followers_27 ?_
    refine E_if_eq (pc := 28) O 37 dX4_followers_28 (by decide) hf (fun hf => ?_) (fun hf => ?_)
    · refine E_iconst (pc := 37) O (0 : Int32) dX4_followers_37 (by decide) ?_
      exact E_sub (L' := [some (.ref x0), some (.int x1), none, some (.int x3)]) (And.intro rfl (And.intro rfl (And.intro rfl True.intro))) (t_b_X4_followers_38 O Z _ hr8 x0 x1 x3 x2 (0 : Int32) hf)
    · refine E_iconst (pc := 31) O (1 : Int32) dX4_followers_31 (by decide) ?_
      refine E_iload_n (pc := 32) O 3 dX4_followers_32 rfl rfl ?_
      refine E_ishl (pc := 33) O dX4_followers_33 ?_
      refine E_goto (pc := 34) O 38 dX4_followers_34 (by decide) ?_
      exact E_sub (L' := [some (.ref x0), some (.int x1), none, some (.int x3)]) (And.intro rfl (And.intro rfl (And.intro rfl True.intro))) (t_b_X4_followers_38 O Z _ hr8 x0 x1 x3 x2 ((1 : Int32) <<< (x3 &&& 31)) hf)
theorem t_f_X4_followers_8 {K : Cx} {fr : Bool} {out : Int32} {h : MH} (O : Ok K yX4_followers.cls cX4_followers 4 (rmm 1 22 0 0)) (Z : Out K (some .int) fr (some (.int out)) h) : ∀ (n : Nat) (x0 : Nat) (x1 : Int32) (x2 : Int32) (x3 : Int32), f_X4_followers_8 h n x0 x1 x2 x3 = some out → EE K (fr, 0, 0) 8 [some (.ref x0), some (.int x1), some (.int x2), some (.int x3)] [] h := by
  intro n
  induction n with
  | zero => intro x0 x1 x2 x3 hf; cases hf
  | succ n ih => intro x0 x1 x2 x3 hf; exact t_b_X4_followers_8 O Z _ ih x0 x1 x2 x3 hf
set_option maxHeartbeats 4000000 in
set_option maxRecDepth 100000 in
theorem t_X4_followers {g : Gx} {fr : Bool} {h : MH} {x0 x1} {out : Int32} (hf : f_X4_followers h x0 x1 = some out) : MM g yX4_followers cX4_followers 4 (some .int) 1 22 0 0 fr fr [.ref x0, .int x1] h (some (.int out)) h := by
  unfold f_X4_followers at hf
  refine MM_of (L := [some (.ref x0), some (.int x1), none, none]) (by decide) (Nat.le_of_ble_eq_true rfl) rfl (fun K hK O Z hn => ?_)
  refine E_iconst (pc := 0) O (1 : Int32) dX4_followers_0 (by decide) ?_
  refine E_iload_n (pc := 1) O 1 dX4_followers_1 rfl rfl ?_
  refine E_ishl (pc := 2) O dX4_followers_2 ?_
  obtain ⟨v5, ev5, hf⟩ := ob hf
  have ev5 := os ev5
  rw [ev5]
  refine E_istore_n (pc := 3) O 2 [some (.ref x0), some (.int x1), some (.int v5), none] dX4_followers_3 rfl (by decide) rfl rfl ?_
  refine E_iload_n (pc := 4) O 1 dX4_followers_4 rfl rfl ?_
  refine E_iconst (pc := 5) O (1 : Int32) dX4_followers_5 (by decide) ?_
  refine E_iadd (pc := 6) O dX4_followers_6 ?_
  obtain ⟨v6, ev6, hf⟩ := ob hf
  have ev6 := os ev6
  rw [ev6]
  refine E_istore_n (pc := 7) O 3 [some (.ref x0), some (.int x1), some (.int v5), some (.int v6)] dX4_followers_7 rfl (by decide) rfl rfl ?_
  exact t_f_X4_followers_8 O Z FU x0 x1 v5 v6 hf
set_option maxHeartbeats 4000000 in
set_option maxRecDepth 100000 in
theorem t_b_X4_become_120 {K : Cx} {fr : Bool} {out : MH} (O : Ok K yX4_become.cls cX4_become 4 (rmm 1 23 0 0)) (Z : Out K none fr none out) (h : MH) (x0 : Nat) (x1 : Int32) (x2 : Int32) (hf : b_X4_become_120 h x0 x1 x2 = some out) : EE K (fr, 0, 0) 120 [some (.ref x0), some (.int x1), some (.int x2), none] [] h := by
  unfold b_X4_become_120 at hf
  refine E_iconst (pc := 120) O (4 : Int32) dX4_become_120 (by decide) ?_
  refine E_iconst (pc := 121) O (4 : Int32) dX4_become_121 (by decide) ?_
  refine E_aload_n (pc := 122) O 0 dX4_become_122 rfl rfl ?_
  refine E_getR (pc := 123) O FL_RailSequenceModel_7 dX4_become_123 hf (fun v1 hf => ?_)
  refine E_iconst (pc := 126) O (3 : Int32) dX4_become_126 (by decide) ?_
  refine E_iaload (pc := 127) O dX4_become_127 hf (fun v2 hf => ?_)
  refine E_imul (pc := 128) O dX4_become_128 ?_
  refine E_iadd (pc := 129) O dX4_become_129 ?_
  obtain ⟨v3, ev3, hf⟩ := ob hf
  have ev3 := os ev3
  rw [ev3]
  refine E_istore_n (pc := 130) O 3 [some (.ref x0), some (.int x1), some (.int x2), some (.int v3)] dX4_become_130 rfl (by decide) rfl rfl ?_
  refine E_aload_n (pc := 131) O 0 dX4_become_131 rfl rfl ?_
  refine E_getR (pc := 132) O FL_RailSequenceModel_7 dX4_become_132 hf (fun v4 hf => ?_)
  refine E_iload_n (pc := 135) O 3 dX4_become_135 rfl rfl ?_
  refine E_aload_n (pc := 136) O 0 dX4_become_136 rfl rfl ?_
  refine E_getR (pc := 137) O FL_RailSequenceModel_7 dX4_become_137 hf (fun v5 hf => ?_)
  refine E_iconst (pc := 140) O (2 : Int32) dX4_become_140 (by decide) ?_
  refine E_iaload (pc := 141) O dX4_become_141 hf (fun v6 hf => ?_)
  refine E_iastore (pc := 142) O dX4_become_142 hf (fun h7 hf => ?_)
  refine E_aload_n (pc := 143) O 0 dX4_become_143 rfl rfl ?_
  refine E_getR (pc := 144) O FL_RailSequenceModel_7 dX4_become_144 hf (fun v8 hf => ?_)
  refine E_iload_n (pc := 147) O 3 dX4_become_147 rfl rfl ?_
  refine E_iconst (pc := 148) O (1 : Int32) dX4_become_148 (by decide) ?_
  refine E_iadd (pc := 149) O dX4_become_149 ?_
  refine E_iload_n (pc := 150) O 1 dX4_become_150 rfl rfl ?_
  refine E_iastore (pc := 151) O dX4_become_151 hf (fun h9 hf => ?_)
  refine E_aload_n (pc := 152) O 0 dX4_become_152 rfl rfl ?_
  refine E_getR (pc := 153) O FL_RailSequenceModel_7 dX4_become_153 hf (fun v10 hf => ?_)
  refine E_iload_n (pc := 156) O 3 dX4_become_156 rfl rfl ?_
  refine E_iconst (pc := 157) O (2 : Int32) dX4_become_157 (by decide) ?_
  refine E_iadd (pc := 158) O dX4_become_158 ?_
  refine E_iload_n (pc := 159) O 2 dX4_become_159 rfl rfl ?_
  refine E_iastore (pc := 160) O dX4_become_160 hf (fun h11 hf => ?_)
  refine E_aload_n (pc := 161) O 0 dX4_become_161 rfl rfl ?_
  refine E_getR (pc := 162) O FL_RailSequenceModel_7 dX4_become_162 hf (fun v12 hf => ?_)
  refine E_iload_n (pc := 165) O 3 dX4_become_165 rfl rfl ?_
  refine E_iconst (pc := 166) O (3 : Int32) dX4_become_166 (by decide) ?_
  refine E_iadd (pc := 167) O dX4_become_167 ?_
  refine E_aload_n (pc := 168) O 0 dX4_become_168 rfl rfl ?_
  refine E_iload_n (pc := 169) O 1 dX4_become_169 rfl rfl ?_
  refine E_bipush (pc := 170) O (15 : Int32) dX4_become_170 (by decide) ?_
  refine E_callV_iP (pc := 172) (S := [.int (v3 + (3 : Int32)), .ref v12]) O [.int x1, .int (15 : Int32)] CV_RailSequenceModel_36 rfl (fun r e => t_X4_of e) dX4_become_172 hf rfl ⟨(Nat.le_of_ble_eq_true rfl), (Nat.le_of_ble_eq_true rfl)⟩ ⟨(Nat.le_of_ble_eq_true rfl), (Nat.le_of_ble_eq_true rfl)⟩ (Nat.le_of_ble_eq_true rfl) (fun v13 hf => ?_)
  refine E_iastore (pc := 175) O dX4_become_175 hf (fun h14 hf => ?_)
  refine E_aload_n (pc := 176) O 0 dX4_become_176 rfl rfl ?_
  refine E_getR (pc := 177) O FL_RailSequenceModel_7 dX4_become_177 hf (fun v15 hf => ?_)
  refine E_iconst (pc := 180) O (3 : Int32) dX4_become_180 (by decide) ?_
  refine E_dup2 (pc := 181) O dX4_become_181 rfl rfl ?_
  refine E_iaload (pc := 182) O dX4_become_182 hf (fun v16 hf => ?_)
  refine E_iconst (pc := 183) O (1 : Int32) dX4_become_183 (by decide) ?_
  refine E_iadd (pc := 184) O dX4_become_184 ?_
  refine E_iastore (pc := 185) O dX4_become_185 hf (fun h17 hf => ?_)
  exact E_vret (pc := 186) O Z hf ⟨(Nat.le_of_ble_eq_true rfl), (Nat.le_of_ble_eq_true rfl)⟩ dX4_become_186
set_option maxHeartbeats 4000000 in
set_option maxRecDepth 100000 in
theorem t_b_X4_become_80 {K : Cx} {fr : Bool} {out : MH} (O : Ok K yX4_become.cls cX4_become 4 (rmm 1 23 0 0)) (Z : Out K none fr none out) (rec80 : MH → Nat → Int32 → Int32 → Int32 → Option MH) (hr80 : ∀ (h : MH) (x0 : Nat) (x1 : Int32) (x2 : Int32) (x3 : Int32), rec80 h x0 x1 x2 x3 = some out → EE K (fr, 0, 0) 80 [some (.ref x0), some (.int x1), some (.int x2), some (.int x3)] [] h) (h : MH) (x0 : Nat) (x1 : Int32) (x2 : Int32) (x3 : Int32) (hf : b_X4_become_80 rec80 h x0 x1 x2 x3 = some out) : EE K (fr, 0, 0) 80 [some (.ref x0), some (.int x1), some (.int x2), some (.int x3)] [] h := by
  unfold b_X4_become_80 at hf
  refine E_iload_n (pc := 80) O 3 dX4_become_80 rfl rfl ?_
  refine E_bipush (pc := 81) O (64 : Int32) dX4_become_81 (by decide) ?_
  refine E_icmp_ge (pc := 83) O 110 dX4_become_83 (by decide) hf (fun hf => ?_) (fun hf => ?_)
  · refine E_aload_n (pc := 110) O 0 dX4_become_110 rfl rfl ?_
    refine E_getR (pc := 111) O FL_RailSequenceModel_7 dX4_become_111 hf (fun v18 hf => ?_)
    refine E_iconst (pc := 114) O (3 : Int32) dX4_become_114 (by decide) ?_
    refine E_dup2 (pc := 115) O dX4_become_115 rfl rfl ?_
    refine E_iaload (pc := 116) O dX4_become_116 hf (fun v19 hf => ?_)
    refine E_iconst (pc := 117) O (1 : Int32) dX4_become_117 (by decide) ?_
    refine E_isub (pc := 118) O dX4_become_118 ?_
    refine E_iastore (pc := 119) O dX4_become_119 hf (fun h20 hf => ?_)
    exact E_sub (L' := [some (.ref x0), some (.int x1), some (.int x2), none]) (And.intro rfl (And.intro rfl (And.intro rfl True.intro))) (t_b_X4_become_120 O Z h20 x0 x1 x2 hf)
  · refine E_aload_n (pc := 86) O 0 dX4_become_86 rfl rfl ?_
    refine E_getR (pc := 87) O FL_RailSequenceModel_7 dX4_become_87 hf (fun v21 hf => ?_)
    refine E_iconst (pc := 90) O (4 : Int32) dX4_become_90 (by decide) ?_
    refine E_iload_n (pc := 91) O 3 dX4_become_91 rfl rfl ?_
    refine E_iadd (pc := 92) O dX4_become_92 ?_
    refine E_iconst (pc := 93) O (4 : Int32) dX4_become_93 (by decide) ?_
    refine E_isub (pc := 94) O dX4_become_94 ?_
    refine E_aload_n (pc := 95) O 0 dX4_become_95 rfl rfl ?_
    refine E_getR (pc := 96) O FL_RailSequenceModel_7 dX4_become_96 hf (fun v22 hf => ?_)
    refine E_iconst (pc := 99) O (4 : Int32) dX4_become_99 (by decide) ?_
    refine E_iload_n (pc := 100) O 3 dX4_become_100 rfl rfl ?_
    refine E_iadd (pc := 101) O dX4_become_101 ?_
    refine E_iaload (pc := 102) O dX4_become_102 hf (fun v23 hf => ?_)
    refine E_iastore (pc := 103) O dX4_become_103 hf (fun h24 hf => ?_)
    refine E_iinc (pc := 104) O (1 : Int32) [some (.ref x0), some (.int x1), some (.int x2), some (.int (x3 + (1 : Int32)))] dX4_become_104 rfl (by decide) rfl (by decide) rfl ?_
    refine E_goto (pc := 107) O 80 dX4_become_107 (by decide) ?_
    exact hr80 h24 x0 x1 x2 (x3 + (1 : Int32)) hf
theorem t_f_X4_become_80 {K : Cx} {fr : Bool} {out : MH} (O : Ok K yX4_become.cls cX4_become 4 (rmm 1 23 0 0)) (Z : Out K none fr none out) : ∀ (n : Nat) (h : MH) (x0 : Nat) (x1 : Int32) (x2 : Int32) (x3 : Int32), f_X4_become_80 n h x0 x1 x2 x3 = some out → EE K (fr, 0, 0) 80 [some (.ref x0), some (.int x1), some (.int x2), some (.int x3)] [] h := by
  intro n
  induction n with
  | zero => intro h x0 x1 x2 x3 hf; cases hf
  | succ n ih => intro h x0 x1 x2 x3 hf; exact t_b_X4_become_80 O Z _ ih h x0 x1 x2 x3 hf
set_option maxHeartbeats 4000000 in
set_option maxRecDepth 100000 in
theorem t_b_X4_become_67 {K : Cx} {fr : Bool} {out : MH} (O : Ok K yX4_become.cls cX4_become 4 (rmm 1 23 0 0)) (Z : Out K none fr none out) (h : MH) (x0 : Nat) (x1 : Int32) (x2 : Int32) (hf : b_X4_become_67 h x0 x1 x2 = some out) : EE K (fr, 0, 0) 67 [some (.ref x0), some (.int x1), some (.int x2), none] [] h := by
  unfold b_X4_become_67 at hf
  refine E_aload_n (pc := 67) O 0 dX4_become_67 rfl rfl ?_
  refine E_getR (pc := 68) O FL_RailSequenceModel_7 dX4_become_68 hf (fun v25 hf => ?_)
  refine E_iconst (pc := 71) O (3 : Int32) dX4_become_71 (by decide) ?_
  refine E_iaload (pc := 72) O dX4_become_72 hf (fun v26 hf => ?_)
  refine E_bipush (pc := 73) O (16 : Int32) dX4_become_73 (by decide) ?_
  refine E_icmp_ne (pc := 75) O 120 dX4_become_75 (by decide) hf (fun hf => ?_) (fun hf => ?_)
  · exact t_b_X4_become_120 O Z h x0 x1 x2 hf
  · refine E_iconst (pc := 78) O (4 : Int32) dX4_become_78 (by decide) ?_
    refine E_istore_n (pc := 79) O 3 [some (.ref x0), some (.int x1), some (.int x2), some (.int (4 : Int32))] dX4_become_79 rfl (by decide) rfl rfl ?_
    exact t_f_X4_become_80 O Z FU h x0 x1 x2 (4 : Int32) hf
set_option maxHeartbeats 4000000 in
set_option maxRecDepth 100000 in
theorem t_b_X4_become_63 {K : Cx} {fr : Bool} {out : MH} (O : Ok K yX4_become.cls cX4_become 4 (rmm 1 23 0 0)) (Z : Out K none fr none out) (h : MH) (x0 : Nat) (x1 : Int32) (x2 : Int32) (s0 : Nat) (s1 : Int32) (s2 : Int32) (s3 : Int32) (hf : b_X4_become_63 h x0 x1 x2 s0 s1 s2 s3 = some out) : EE K (fr, 0, 0) 63 [some (.ref x0), some (.int x1), some (.int x2), none] [.int s3, .int s2, .int s1, .ref s0] h := by
  unfold b_X4_become_63 at hf
  refine E_iadd (pc := 63) O dX4_become_63 ?_
  refine E_callV_v (pc := 64) (S := []) O [.int s1, .int (s2 + s3)] CV_RailSequenceModel_50 rfl (fun r e => t_X4_add e) dX4_become_64 hf rfl ⟨(Nat.le_of_ble_eq_true rfl), (Nat.le_of_ble_eq_true rfl)⟩ ⟨(Nat.le_of_ble_eq_true rfl), (Nat.le_of_ble_eq_true rfl)⟩ (Nat.le_of_ble_eq_true rfl) (fun h27 hf => ?_)
  exact t_b_X4_become_67 O Z h27 x0 x1 x2 hf
set_option maxHeartbeats 4000000 in
set_option maxRecDepth 100000 in
theorem t_b_X4_become_49 {K : Cx} {fr : Bool} {out : MH} (O : Ok K yX4_become.cls cX4_become 4 (rmm 1 23 0 0)) (Z : Out K none fr none out) (h : MH) (x0 : Nat) (x1 : Int32) (x2 : Int32) (hf : b_X4_become_49 h x0 x1 x2 = some out) : EE K (fr, 0, 0) 49 [some (.ref x0), some (.int x1), some (.int x2), none] [] h := by
  unfold b_X4_become_49 at hf
  refine E_aload_n (pc := 49) O 0 dX4_become_49 rfl rfl ?_
  refine E_iload_n (pc := 50) O 1 dX4_become_50 rfl rfl ?_
  refine E_bipush (pc := 51) O (16 : Int32) dX4_become_51 (by decide) ?_
  refine E_iload_n (pc := 53) O 2 dX4_become_53 rfl rfl ?_
  refine E_iconst (pc := 54) O (2 : Int32) dX4_become_54 (by decide) ?_
  refine E_icmp_ne (pc := 55) O 62 dX4_become_55 (by decide) hf (fun hf => ?_) (fun hf => ?_)
  · refine E_iconst (pc := 62) O (1 : Int32) dX4_become_62 (by decide) ?_
    exact t_b_X4_become_63 O Z h x0 x1 x2 x0 x1 (16 : Int32) (1 : Int32) hf
  · refine E_iconst (pc := 58) O (0 : Int32) dX4_become_58 (by decide) ?_
    refine E_goto (pc := 59) O 63 dX4_become_59 (by decide) ?_
    exact t_b_X4_become_63 O Z h x0 x1 x2 x0 x1 (16 : Int32) (0 : Int32) hf
set_option maxHeartbeats 4000000 in
set_option maxRecDepth 100000 in
theorem t_b_X4_become_35 {K : Cx} {fr : Bool} {out : MH} (O : Ok K yX4_become.cls cX4_become 4 (rmm 1 23 0 0)) (Z : Out K none fr none out) (h : MH) (x0 : Nat) (x1 : Int32) (x2 : Int32) (s0 : Nat) (s1 : Int32) (s2 : Int32) (hf : b_X4_become_35 h x0 x1 x2 s0 s1 s2 = some out) : EE K (fr, 0, 0) 35 [some (.ref x0), some (.int x1), some (.int x2), none] [.int s2, .int s1, .ref s0] h := by
  unfold b_X4_become_35 at hf
  refine E_ior (pc := 35) O dX4_become_35 ?_
  refine E_put (pc := 36) O FN_RailSequenceModel_47 rfl rfl dX4_become_36 hf (fun h28 hf => ?_)
  refine E_iload_n (pc := 39) O 2 dX4_become_39 rfl rfl ?_
  refine E_iconst (pc := 40) O (2 : Int32) dX4_become_40 (by decide) ?_
  refine E_icmp_eq (pc := 41) O 49 dX4_become_41 (by decide) hf (fun hf => ?_) (fun hf => ?_)
  · exact t_b_X4_become_49 O Z h28 x0 x1 x2 hf
  · refine E_iload_n (pc := 44) O 2 dX4_become_44 rfl rfl ?_
    refine E_iconst (pc := 45) O (3 : Int32) dX4_become_45 (by decide) ?_
    refine E_icmp_ne (pc := 46) O 67 dX4_become_46 (by decide) hf (fun hf => ?_) (fun hf => ?_)
    · exact t_b_X4_become_67 O Z h28 x0 x1 x2 hf
    · exact t_b_X4_become_49 O Z h28 x0 x1 x2 hf
set_option maxHeartbeats 4000000 in
set_option maxRecDepth 100000 in
theorem t_X4_become {g : Gx} {fr : Bool} {h : MH} {x0 x1 x2} {out : MH} (hf : f_X4_become h x0 x1 x2 = some out) : MM g yX4_become cX4_become 4 none 1 23 0 0 fr fr [.ref x0, .int x1, .int x2] h none out := by
  unfold f_X4_become at hf
  refine MM_of (L := [some (.ref x0), some (.int x1), some (.int x2), none]) (by decide) (Nat.le_of_ble_eq_true rfl) rfl (fun K hK O Z hn => ?_)
  refine E_aload_n (pc := 0) O 0 dX4_become_0 rfl rfl ?_
  refine E_iload_n (pc := 1) O 1 dX4_become_1 rfl rfl ?_
  refine E_bipush (pc := 2) O (9 : Int32) dX4_become_2 (by decide) ?_
  refine E_iload_n (pc := 4) O 2 dX4_become_4 rfl rfl ?_
  refine E_callV_v (pc := 5) (S := []) O [.int x1, .int (9 : Int32), .int x2] CV_RailSequenceModel_40 rfl (fun r e => t_X4_lay e) dX4_become_5 hf rfl ⟨(Nat.le_of_ble_eq_true rfl), (Nat.le_of_ble_eq_true rfl)⟩ ⟨(Nat.le_of_ble_eq_true rfl), (Nat.le_of_ble_eq_true rfl)⟩ (Nat.le_of_ble_eq_true rfl) (fun h29 hf => ?_)
  refine E_aload_n (pc := 8) O 0 dX4_become_8 rfl rfl ?_
  refine E_dup (pc := 9) O dX4_become_9 rfl ?_
  refine E_getI (pc := 10) O FL_RailSequenceModel_44 dX4_become_10 hf (fun v30 hf => ?_)
  refine E_iconst (pc := 13) O (1 : Int32) dX4_become_13 (by decide) ?_
  refine E_iadd (pc := 14) O dX4_become_14 ?_
  refine E_put (pc := 15) O FN_RailSequenceModel_44 rfl rfl dX4_become_15 hf (fun h31 hf => ?_)
  refine E_aload_n (pc := 18) O 0 dX4_become_18 rfl rfl ?_
  refine E_dup (pc := 19) O dX4_become_19 rfl ?_
  refine E_getI (pc := 20) O FL_RailSequenceModel_47 dX4_become_20 hf (fun v32 hf => ?_)
  refine E_iload_n (pc := 23) O 2 dX4_become_23 rfl rfl ?_
  refine E_iconst (pc := 24) O (4 : Int32) dX4_become_24 (by decide) ?_
  refine E_icmp_lt (pc := 25) O 34 dX4_become_25 (by decide) hf (fun hf => ?_) (fun hf => ?_)
  · refine E_iconst (pc := 34) O (0 : Int32) dX4_become_34 (by decide) ?_
    exact t_b_X4_become_35 O Z h31 x0 x1 x2 x0 v32 (0 : Int32) hf
  · refine E_iconst (pc := 28) O (1 : Int32) dX4_become_28 (by decide) ?_
    refine E_iload_n (pc := 29) O 1 dX4_become_29 rfl rfl ?_
    refine E_ishl (pc := 30) O dX4_become_30 ?_
    refine E_goto (pc := 31) O 35 dX4_become_31 (by decide) ?_
    exact t_b_X4_become_35 O Z h31 x0 x1 x2 x0 v32 ((1 : Int32) <<< (x1 &&& 31)) hf
set_option maxHeartbeats 4000000 in
set_option maxRecDepth 100000 in
theorem t_X4_becomeFor {g : Gx} {fr : Bool} {h : MH} {x0 x1 x2 x3} {out : MH} (hf : f_X4_becomeFor h x0 x1 x2 x3 = some out) : MM g yX4_becomeFor cX4_becomeFor 4 none 2 46 0 0 fr fr [.ref x0, .int x1, .int x2, .int x3] h none out := by
  unfold f_X4_becomeFor at hf
  refine MM_of (L := [some (.ref x0), some (.int x1), some (.int x2), some (.int x3)]) (by decide) (Nat.le_of_ble_eq_true rfl) rfl (fun K hK O Z hn => ?_)
  refine E_aload_n (pc := 0) O 0 dX4_becomeFor_0 rfl rfl ?_
  refine E_iload_n (pc := 1) O 1 dX4_becomeFor_1 rfl rfl ?_
  refine E_bipush (pc := 2) O (15 : Int32) dX4_becomeFor_2 (by decide) ?_
  refine E_iload_n (pc := 4) O 3 dX4_becomeFor_4 rfl rfl ?_
  refine E_callV_v (pc := 5) (S := []) O [.int x1, .int (15 : Int32), .int x3] CV_RailSequenceModel_40 rfl (fun r e => t_X4_lay e) dX4_becomeFor_5 hf rfl ⟨(Nat.le_of_ble_eq_true rfl), (Nat.le_of_ble_eq_true rfl)⟩ ⟨(Nat.le_of_ble_eq_true rfl), (Nat.le_of_ble_eq_true rfl)⟩ (Nat.le_of_ble_eq_true rfl) (fun h1 hf => ?_)
  refine E_aload_n (pc := 8) O 0 dX4_becomeFor_8 rfl rfl ?_
  refine E_iload_n (pc := 9) O 1 dX4_becomeFor_9 rfl rfl ?_
  refine E_iload_n (pc := 10) O 2 dX4_becomeFor_10 rfl rfl ?_
  refine E_callV_v (pc := 11) (S := []) O [.int x1, .int x2] CV_RailSequenceModel_54 rfl (fun r e => t_X4_become e) dX4_becomeFor_11 hf rfl ⟨(Nat.le_of_ble_eq_true rfl), (Nat.le_of_ble_eq_true rfl)⟩ ⟨(Nat.le_of_ble_eq_true rfl), (Nat.le_of_ble_eq_true rfl)⟩ (Nat.le_of_ble_eq_true rfl) (fun h2 hf => ?_)
  exact E_vret (pc := 14) O Z hf ⟨(Nat.le_of_ble_eq_true rfl), (Nat.le_of_ble_eq_true rfl)⟩ dX4_becomeFor_14
set_option maxHeartbeats 4000000 in
set_option maxRecDepth 100000 in
theorem t_b_X4_towards_26 {K : Cx} {fr : Bool} {out : Int32} {h : MH} (O : Ok K yX4_towards.cls cX4_towards 4 (rmm 0 0 0 0)) (Z : Out K (some .int) fr (some (.int out)) h) (s0 : Int32) (s1 : Int32) (hf : b_X4_towards_26 h s0 s1 = some out) : EE K (fr, 0, 0) 26 [none, none, none, none] [.int s1, .int s0] h := by
  unfold b_X4_towards_26 at hf
  refine E_iadd (pc := 26) O dX4_towards_26 ?_
  exact E_iretP (pc := 27) O Z hf ⟨(Nat.le_of_ble_eq_true rfl), (Nat.le_of_ble_eq_true rfl)⟩ dX4_towards_27
set_option maxHeartbeats 4000000 in
set_option maxRecDepth 100000 in
theorem t_X4_towards {g : Gx} {fr : Bool} {h : MH} {x0 x1 x2} {out : Int32} (hf : f_X4_towards h x0 x1 x2 = some out) : MM g yX4_towards cX4_towards 4 (some .int) 0 0 0 0 fr fr [.int x0, .int x1, .int x2] h (some (.int out)) h := by
  unfold f_X4_towards at hf
  refine MM_of (L := [some (.int x0), some (.int x1), some (.int x2), none]) (by decide) (Nat.le_of_ble_eq_true rfl) rfl (fun K hK O Z hn => ?_)
  refine E_iload_n (pc := 0) O 1 dX4_towards_0 rfl rfl ?_
  refine E_iload_n (pc := 1) O 0 dX4_towards_1 rfl rfl ?_
  refine E_isub (pc := 2) O dX4_towards_2 ?_
  obtain ⟨v1, ev1, hf⟩ := ob hf
  have ev1 := os ev1
  rw [ev1]
  refine E_istore_n (pc := 3) O 3 [some (.int x0), some (.int x1), some (.int x2), some (.int v1)] dX4_towards_3 rfl (by decide) rfl rfl ?_
  refine E_iload_n (pc := 4) O 0 dX4_towards_4 rfl rfl ?_
  refine E_iload_n (pc := 5) O 3 dX4_towards_5 rfl rfl ?_
  refine E_iload_n (pc := 6) O 2 dX4_towards_6 rfl rfl ?_
  refine E_icmp_le (pc := 7) O 14 dX4_towards_7 (by decide) hf (fun hf => ?_) (fun hf => ?_)
  · refine E_iload_n (pc := 14) O 3 dX4_towards_14 rfl rfl ?_
    refine E_iload_n (pc := 15) O 2 dX4_towards_15 rfl rfl ?_
    refine E_ineg (pc := 16) O dX4_towards_16 ?_
    refine E_icmp_ge (pc := 17) O 25 dX4_towards_17 (by decide) hf (fun hf => ?_) (fun hf => ?_)
    · refine E_iload_n (pc := 25) O 3 dX4_towards_25 rfl rfl ?_
      exact E_sub (L' := [none, none, none, none]) True.intro (t_b_X4_towards_26 O Z x0 v1 hf)
    · refine E_iload_n (pc := 20) O 2 dX4_towards_20 rfl rfl ?_
      refine E_ineg (pc := 21) O dX4_towards_21 ?_
      refine E_goto (pc := 22) O 26 dX4_towards_22 (by decide) ?_
      exact E_sub (L' := [none, none, none, none]) True.intro (t_b_X4_towards_26 O Z x0 (-x2) hf)
  · refine E_iload_n (pc := 10) O 2 dX4_towards_10 rfl rfl ?_
    refine E_goto (pc := 11) O 26 dX4_towards_11 (by decide) ?_
    exact E_sub (L' := [none, none, none, none]) True.intro (t_b_X4_towards_26 O Z x0 x2 hf)
set_option maxHeartbeats 4000000 in
set_option maxRecDepth 100000 in
theorem t_b_X4_moveVoltage_84 {K : Cx} {fr : Bool} {out : MH} (O : Ok K yX4_moveVoltage.cls cX4_moveVoltage 4 (rmm 1 23 0 0)) (Z : Out K none fr none out) (h : MH) (s0 : Nat) (s1 : Int32) (s2 : Int32) (s3 : Int32) (hf : b_X4_moveVoltage_84 h s0 s1 s2 s3 = some out) : EE K (fr, 0, 0) 84 [none, none, none, none] [.int s3, .int s2, .int s1, .ref s0] h := by
  unfold b_X4_moveVoltage_84 at hf
  refine E_callV_v (pc := 84) (S := []) O [.int s1, .int s2, .int s3] CV_RailSequenceModel_40 rfl (fun r e => t_X4_lay e) dX4_moveVoltage_84 hf rfl ⟨(Nat.le_of_ble_eq_true rfl), (Nat.le_of_ble_eq_true rfl)⟩ ⟨(Nat.le_of_ble_eq_true rfl), (Nat.le_of_ble_eq_true rfl)⟩ (Nat.le_of_ble_eq_true rfl) (fun h1 hf => ?_)
  exact E_vret (pc := 87) O Z hf ⟨(Nat.le_of_ble_eq_true rfl), (Nat.le_of_ble_eq_true rfl)⟩ dX4_moveVoltage_87
set_option maxHeartbeats 4000000 in
set_option maxRecDepth 100000 in
theorem t_b_X4_moveVoltage_37 {K : Cx} {fr : Bool} {out : MH} (O : Ok K yX4_moveVoltage.cls cX4_moveVoltage 4 (rmm 1 23 0 0)) (Z : Out K none fr none out) (h : MH) (x0 : Nat) (x1 : Int32) (s0 : Int32) (hf : b_X4_moveVoltage_37 h x0 x1 s0 = some out) : EE K (fr, 0, 0) 37 [some (.ref x0), some (.int x1), none, none] [.int s0] h := by
  unfold b_X4_moveVoltage_37 at hf
  refine E_istore_n (pc := 37) O 2 [some (.ref x0), some (.int x1), some (.int s0), none] dX4_moveVoltage_37 rfl (by decide) rfl rfl ?_
  refine E_aload_n (pc := 38) O 0 dX4_moveVoltage_38 rfl rfl ?_
  refine E_iload_n (pc := 39) O 1 dX4_moveVoltage_39 rfl rfl ?_
  refine E_bipush (pc := 40) O (10 : Int32) dX4_moveVoltage_40 (by decide) ?_
  refine E_callV_iP (pc := 42) (S := []) O [.int x1, .int (10 : Int32)] CV_RailSequenceModel_36 rfl (fun r e => t_X4_of e) dX4_moveVoltage_42 hf rfl ⟨(Nat.le_of_ble_eq_true rfl), (Nat.le_of_ble_eq_true rfl)⟩ ⟨(Nat.le_of_ble_eq_true rfl), (Nat.le_of_ble_eq_true rfl)⟩ (Nat.le_of_ble_eq_true rfl) (fun v2 hf => ?_)
  refine E_istore_n (pc := 45) O 3 [some (.ref x0), some (.int x1), some (.int s0), some (.int v2)] dX4_moveVoltage_45 rfl (by decide) rfl rfl ?_
  refine E_aload_n (pc := 46) O 0 dX4_moveVoltage_46 rfl rfl ?_
  refine E_iload_n (pc := 47) O 1 dX4_moveVoltage_47 rfl rfl ?_
  refine E_bipush (pc := 48) O (10 : Int32) dX4_moveVoltage_48 (by decide) ?_
  refine E_iload_n (pc := 50) O 2 dX4_moveVoltage_50 rfl rfl ?_
  refine E_if_eq (pc := 51) O 73 dX4_moveVoltage_51 (by decide) hf (fun hf => ?_) (fun hf => ?_)
  · refine E_iload_n (pc := 73) O 3 dX4_moveVoltage_73 rfl rfl ?_
    refine E_iconst (pc := 74) O (0 : Int32) dX4_moveVoltage_74 (by decide) ?_
    refine E_aload_n (pc := 75) O 0 dX4_moveVoltage_75 rfl rfl ?_
    refine E_iload_n (pc := 76) O 1 dX4_moveVoltage_76 rfl rfl ?_
    refine E_iconst (pc := 77) O (2 : Int32) dX4_moveVoltage_77 (by decide) ?_
    refine E_callV_iP (pc := 78) (S := [.int (0 : Int32), .int v2, .int (10 : Int32), .int x1, .ref x0]) O [.int x1, .int (2 : Int32)] CV_RailSequenceModel_36 rfl (fun r e => t_X4_of e) dX4_moveVoltage_78 hf rfl ⟨(Nat.le_of_ble_eq_true rfl), (Nat.le_of_ble_eq_true rfl)⟩ ⟨(Nat.le_of_ble_eq_true rfl), (Nat.le_of_ble_eq_true rfl)⟩ (Nat.le_of_ble_eq_true rfl) (fun v3 hf => ?_)
    refine E_callS_iP (pc := 81) (S := [.int (10 : Int32), .int x1, .ref x0]) O [.int v2, .int (0 : Int32), .int v3] CS_RailSequenceModel_57 (fun r e => t_X4_towards e) dX4_moveVoltage_81 hf rfl ⟨(Nat.le_of_ble_eq_true rfl), (Nat.le_of_ble_eq_true rfl)⟩ ⟨(Nat.le_of_ble_eq_true rfl), (Nat.le_of_ble_eq_true rfl)⟩ (Nat.le_of_ble_eq_true rfl) (fun v4 hf => ?_)
    exact E_sub (L' := [none, none, none, none]) True.intro (t_b_X4_moveVoltage_84 O Z h x0 x1 (10 : Int32) v4 hf)
  · refine E_iload_n (pc := 54) O 3 dX4_moveVoltage_54 rfl rfl ?_
    refine E_aload_n (pc := 55) O 0 dX4_moveVoltage_55 rfl rfl ?_
    refine E_iload_n (pc := 56) O 1 dX4_moveVoltage_56 rfl rfl ?_
    refine E_iconst (pc := 57) O (0 : Int32) dX4_moveVoltage_57 (by decide) ?_
    refine E_callV_iP (pc := 58) (S := [.int v2, .int (10 : Int32), .int x1, .ref x0]) O [.int x1, .int (0 : Int32)] CV_RailSequenceModel_36 rfl (fun r e => t_X4_of e) dX4_moveVoltage_58 hf rfl ⟨(Nat.le_of_ble_eq_true rfl), (Nat.le_of_ble_eq_true rfl)⟩ ⟨(Nat.le_of_ble_eq_true rfl), (Nat.le_of_ble_eq_true rfl)⟩ (Nat.le_of_ble_eq_true rfl) (fun v5 hf => ?_)
    refine E_aload_n (pc := 61) O 0 dX4_moveVoltage_61 rfl rfl ?_
    refine E_iload_n (pc := 62) O 1 dX4_moveVoltage_62 rfl rfl ?_
    refine E_iconst (pc := 63) O (1 : Int32) dX4_moveVoltage_63 (by decide) ?_
    refine E_callV_iP (pc := 64) (S := [.int v5, .int v2, .int (10 : Int32), .int x1, .ref x0]) O [.int x1, .int (1 : Int32)] CV_RailSequenceModel_36 rfl (fun r e => t_X4_of e) dX4_moveVoltage_64 hf rfl ⟨(Nat.le_of_ble_eq_true rfl), (Nat.le_of_ble_eq_true rfl)⟩ ⟨(Nat.le_of_ble_eq_true rfl), (Nat.le_of_ble_eq_true rfl)⟩ (Nat.le_of_ble_eq_true rfl) (fun v6 hf => ?_)
    refine E_callS_iP (pc := 67) (S := [.int (10 : Int32), .int x1, .ref x0]) O [.int v2, .int v5, .int v6] CS_RailSequenceModel_57 (fun r e => t_X4_towards e) dX4_moveVoltage_67 hf rfl ⟨(Nat.le_of_ble_eq_true rfl), (Nat.le_of_ble_eq_true rfl)⟩ ⟨(Nat.le_of_ble_eq_true rfl), (Nat.le_of_ble_eq_true rfl)⟩ (Nat.le_of_ble_eq_true rfl) (fun v7 hf => ?_)
    refine E_goto (pc := 70) O 84 dX4_moveVoltage_70 (by decide) ?_
    exact E_sub (L' := [none, none, none, none]) True.intro (t_b_X4_moveVoltage_84 O Z h x0 x1 (10 : Int32) v7 hf)
set_option maxHeartbeats 4000000 in
set_option maxRecDepth 100000 in
theorem t_b_X4_moveVoltage_36 {K : Cx} {fr : Bool} {out : MH} (O : Ok K yX4_moveVoltage.cls cX4_moveVoltage 4 (rmm 1 23 0 0)) (Z : Out K none fr none out) (h : MH) (x0 : Nat) (x1 : Int32) (hf : b_X4_moveVoltage_36 h x0 x1 = some out) : EE K (fr, 0, 0) 36 [some (.ref x0), some (.int x1), none, none] [] h := by
  unfold b_X4_moveVoltage_36 at hf
  refine E_iconst (pc := 36) O (0 : Int32) dX4_moveVoltage_36 (by decide) ?_
  exact t_b_X4_moveVoltage_37 O Z h x0 x1 (0 : Int32) hf
set_option maxHeartbeats 4000000 in
set_option maxRecDepth 100000 in
theorem t_b_X4_moveVoltage_22 {K : Cx} {fr : Bool} {out : MH} (O : Ok K yX4_moveVoltage.cls cX4_moveVoltage 4 (rmm 1 23 0 0)) (Z : Out K none fr none out) (h : MH) (x0 : Nat) (x1 : Int32) (hf : b_X4_moveVoltage_22 h x0 x1 = some out) : EE K (fr, 0, 0) 22 [some (.ref x0), some (.int x1), none, none] [] h := by
  unfold b_X4_moveVoltage_22 at hf
  refine E_aload_n (pc := 22) O 0 dX4_moveVoltage_22 rfl rfl ?_
  refine E_iload_n (pc := 23) O 1 dX4_moveVoltage_23 rfl rfl ?_
  refine E_bipush (pc := 24) O (12 : Int32) dX4_moveVoltage_24 (by decide) ?_
  refine E_callV_iP (pc := 26) (S := []) O [.int x1, .int (12 : Int32)] CV_RailSequenceModel_36 rfl (fun r e => t_X4_of e) dX4_moveVoltage_26 hf rfl ⟨(Nat.le_of_ble_eq_true rfl), (Nat.le_of_ble_eq_true rfl)⟩ ⟨(Nat.le_of_ble_eq_true rfl), (Nat.le_of_ble_eq_true rfl)⟩ (Nat.le_of_ble_eq_true rfl) (fun v8 hf => ?_)
  refine E_if_ne (pc := 29) O 36 dX4_moveVoltage_29 (by decide) hf (fun hf => ?_) (fun hf => ?_)
  · exact t_b_X4_moveVoltage_36 O Z h x0 x1 hf
  · refine E_iconst (pc := 32) O (1 : Int32) dX4_moveVoltage_32 (by decide) ?_
    refine E_goto (pc := 33) O 37 dX4_moveVoltage_33 (by decide) ?_
    exact t_b_X4_moveVoltage_37 O Z h x0 x1 (1 : Int32) hf
set_option maxHeartbeats 4000000 in
set_option maxRecDepth 100000 in
theorem t_X4_moveVoltage {g : Gx} {fr : Bool} {h : MH} {x0 x1} {out : MH} (hf : f_X4_moveVoltage h x0 x1 = some out) : MM g yX4_moveVoltage cX4_moveVoltage 4 none 1 23 0 0 fr fr [.ref x0, .int x1] h none out := by
  unfold f_X4_moveVoltage at hf
  refine MM_of (L := [some (.ref x0), some (.int x1), none, none]) (by decide) (Nat.le_of_ble_eq_true rfl) rfl (fun K hK O Z hn => ?_)
  refine E_aload_n (pc := 0) O 0 dX4_moveVoltage_0 rfl rfl ?_
  refine E_iload_n (pc := 1) O 1 dX4_moveVoltage_1 rfl rfl ?_
  refine E_bipush (pc := 2) O (9 : Int32) dX4_moveVoltage_2 (by decide) ?_
  refine E_callV_iP (pc := 4) (S := []) O [.int x1, .int (9 : Int32)] CV_RailSequenceModel_36 rfl (fun r e => t_X4_of e) dX4_moveVoltage_4 hf rfl ⟨(Nat.le_of_ble_eq_true rfl), (Nat.le_of_ble_eq_true rfl)⟩ ⟨(Nat.le_of_ble_eq_true rfl), (Nat.le_of_ble_eq_true rfl)⟩ (Nat.le_of_ble_eq_true rfl) (fun v9 hf => ?_)
  refine E_iconst (pc := 7) O (2 : Int32) dX4_moveVoltage_7 (by decide) ?_
  refine E_icmp_eq (pc := 8) O 22 dX4_moveVoltage_8 (by decide) hf (fun hf => ?_) (fun hf => ?_)
  · exact t_b_X4_moveVoltage_22 O Z h x0 x1 hf
  · refine E_aload_n (pc := 11) O 0 dX4_moveVoltage_11 rfl rfl ?_
    refine E_iload_n (pc := 12) O 1 dX4_moveVoltage_12 rfl rfl ?_
    refine E_bipush (pc := 13) O (9 : Int32) dX4_moveVoltage_13 (by decide) ?_
    refine E_callV_iP (pc := 15) (S := []) O [.int x1, .int (9 : Int32)] CV_RailSequenceModel_36 rfl (fun r e => t_X4_of e) dX4_moveVoltage_15 hf rfl ⟨(Nat.le_of_ble_eq_true rfl), (Nat.le_of_ble_eq_true rfl)⟩ ⟨(Nat.le_of_ble_eq_true rfl), (Nat.le_of_ble_eq_true rfl)⟩ (Nat.le_of_ble_eq_true rfl) (fun v10 hf => ?_)
    refine E_iconst (pc := 18) O (3 : Int32) dX4_moveVoltage_18 (by decide) ?_
    refine E_icmp_ne (pc := 19) O 36 dX4_moveVoltage_19 (by decide) hf (fun hf => ?_) (fun hf => ?_)
    · exact t_b_X4_moveVoltage_36 O Z h x0 x1 hf
    · exact t_b_X4_moveVoltage_22 O Z h x0 x1 hf
set_option maxHeartbeats 4000000 in
set_option maxRecDepth 100000 in
theorem t_b_X4_missing_47 {K : Cx} {fr : Bool} {out : Int32} {h : MH} (O : Ok K yX4_missing.cls cX4_missing 4 (rmm 2 44 0 0)) (Z : Out K (some .int) fr (some (.int out)) h) (rec6 : Nat → Int32 → Int32 → Int32 → Option Int32) (hr6 : ∀ (x0 : Nat) (x1 : Int32) (x2 : Int32) (x3 : Int32), rec6 x0 x1 x2 x3 = some out → EE K (fr, 0, 0) 6 [some (.ref x0), some (.int x1), some (.int x2), some (.int x3)] [] h) (x0 : Nat) (x1 : Int32) (x3 : Int32) (s0 : Int32) (hf : b_X4_missing_47 h rec6 x0 x1 x3 s0 = some out) : EE K (fr, 0, 0) 47 [some (.ref x0), some (.int x1), none, some (.int x3)] [.int s0] h := by
  unfold b_X4_missing_47 at hf
  refine E_istore_n (pc := 47) O 2 [some (.ref x0), some (.int x1), some (.int s0), some (.int x3)] dX4_missing_47 rfl (by decide) rfl rfl ?_
  refine E_iinc (pc := 48) O (-1 : Int32) [some (.ref x0), some (.int x1), some (.int s0), some (.int (x3 + (-1 : Int32)))] dX4_missing_48 rfl (by decide) rfl (by decide) rfl ?_
  refine E_goto (pc := 51) O 6 dX4_missing_51 (by decide) ?_
  exact hr6 x0 x1 s0 (x3 + (-1 : Int32)) hf
set_option maxHeartbeats 4000000 in
set_option maxRecDepth 100000 in
theorem t_b_X4_missing_42 {K : Cx} {fr : Bool} {out : Int32} {h : MH} (O : Ok K yX4_missing.cls cX4_missing 4 (rmm 2 44 0 0)) (Z : Out K (some .int) fr (some (.int out)) h) (rec6 : Nat → Int32 → Int32 → Int32 → Option Int32) (hr6 : ∀ (x0 : Nat) (x1 : Int32) (x2 : Int32) (x3 : Int32), rec6 x0 x1 x2 x3 = some out → EE K (fr, 0, 0) 6 [some (.ref x0), some (.int x1), some (.int x2), some (.int x3)] [] h) (x0 : Nat) (x1 : Int32) (x3 : Int32) (hf : b_X4_missing_42 h rec6 x0 x1 x3 = some out) : EE K (fr, 0, 0) 42 [some (.ref x0), some (.int x1), none, some (.int x3)] [] h := by
  unfold b_X4_missing_42 at hf
  refine E_iload_n (pc := 42) O 3 dX4_missing_42 rfl rfl ?_
  refine E_goto (pc := 43) O 47 dX4_missing_43 (by decide) ?_
  exact t_b_X4_missing_47 O Z _ hr6 x0 x1 x3 x3 hf
set_option maxHeartbeats 4000000 in
set_option maxRecDepth 100000 in
theorem t_b_X4_missing_46 {K : Cx} {fr : Bool} {out : Int32} {h : MH} (O : Ok K yX4_missing.cls cX4_missing 4 (rmm 2 44 0 0)) (Z : Out K (some .int) fr (some (.int out)) h) (rec6 : Nat → Int32 → Int32 → Int32 → Option Int32) (hr6 : ∀ (x0 : Nat) (x1 : Int32) (x2 : Int32) (x3 : Int32), rec6 x0 x1 x2 x3 = some out → EE K (fr, 0, 0) 6 [some (.ref x0), some (.int x1), some (.int x2), some (.int x3)] [] h) (x0 : Nat) (x1 : Int32) (x2 : Int32) (x3 : Int32) (hf : b_X4_missing_46 h rec6 x0 x1 x2 x3 = some out) : EE K (fr, 0, 0) 46 [some (.ref x0), some (.int x1), some (.int x2), some (.int x3)] [] h := by
  unfold b_X4_missing_46 at hf
  refine E_iload_n (pc := 46) O 2 dX4_missing_46 rfl rfl ?_
  exact E_sub (L' := [some (.ref x0), some (.int x1), none, some (.int x3)]) (And.intro rfl (And.intro rfl (And.intro rfl True.intro))) (t_b_X4_missing_47 O Z _ hr6 x0 x1 x3 x2 hf)
set_option maxHeartbeats 4000000 in
set_option maxRecDepth 100000 in
theorem t_b_X4_missing_6 {K : Cx} {fr : Bool} {out : Int32} {h : MH} (O : Ok K yX4_missing.cls cX4_missing 4 (rmm 2 44 0 0)) (Z : Out K (some .int) fr (some (.int out)) h) (rec6 : Nat → Int32 → Int32 → Int32 → Option Int32) (hr6 : ∀ (x0 : Nat) (x1 : Int32) (x2 : Int32) (x3 : Int32), rec6 x0 x1 x2 x3 = some out → EE K (fr, 0, 0) 6 [some (.ref x0), some (.int x1), some (.int x2), some (.int x3)] [] h) (x0 : Nat) (x1 : Int32) (x2 : Int32) (x3 : Int32) (hf : b_X4_missing_6 h rec6 x0 x1 x2 x3 = some out) : EE K (fr, 0, 0) 6 [some (.ref x0), some (.int x1), some (.int x2), some (.int x3)] [] h := by
  unfold b_X4_missing_6 at hf
  refine E_iload_n (pc := 6) O 3 dX4_missing_6 rfl rfl ?_
  refine E_if_lt (pc := 7) O 54 dX4_missing_7 (by decide) hf (fun hf => ?_) (fun hf => ?_)
  · refine E_iload_n (pc := 54) O 2 dX4_missing_54 rfl rfl ?_
    exact E_iretP (pc := 55) O Z hf ⟨(Nat.le_of_ble_eq_true rfl), (Nat.le_of_ble_eq_true rfl)⟩ dX4_missing_55
  · refine E_aload_n (pc := 10) O 0 dX4_missing_10 rfl rfl ?_
    refine E_iload_n (pc := 11) O 1 dX4_missing_11 rfl rfl ?_
    refine E_bipush (pc := 12) O (7 : Int32) dX4_missing_12 (by decide) ?_
    refine E_callV_iP (pc := 14) (S := []) O [.int x1, .int (7 : Int32)] CV_RailSequenceModel_36 rfl (fun r e => t_X4_of e) dX4_missing_14 hf rfl ⟨(Nat.le_of_ble_eq_true rfl), (Nat.le_of_ble_eq_true rfl)⟩ ⟨(Nat.le_of_ble_eq_true rfl), (Nat.le_of_ble_eq_true rfl)⟩ (Nat.le_of_ble_eq_true rfl) (fun v1 hf => ?_)
    refine E_iload_n (pc := 17) O 3 dX4_missing_17 rfl rfl ?_
    refine E_callS_iP (pc := 18) (S := []) O [.int v1, .int x3] CS_RailSequenceModel_61 (fun r e => t_X4_has e) dX4_missing_18 hf rfl ⟨(Nat.le_of_ble_eq_true rfl), (Nat.le_of_ble_eq_true rfl)⟩ ⟨(Nat.le_of_ble_eq_true rfl), (Nat.le_of_ble_eq_true rfl)⟩ (Nat.le_of_ble_eq_true rfl) (fun v2 hf => ?_)
    refine E_if_eq (pc := 21) O 46 dX4_missing_21 (by decide) hf (fun hf => ?_) (fun hf => ?_)
    · exact t_b_X4_missing_46 O Z _ hr6 x0 x1 x2 x3 hf
    · refine E_aload_n (pc := 24) O 0 dX4_missing_24 rfl rfl ?_
      refine E_getR (pc := 25) O FL_RailSequenceModel_19 dX4_missing_25 hf (fun v3 hf => ?_)
      refine E_iload_n (pc := 28) O 3 dX4_missing_28 rfl rfl ?_
      refine E_iaload (pc := 29) O dX4_missing_29 hf (fun v4 hf => ?_)
      refine E_iconst (pc := 30) O (3 : Int32) dX4_missing_30 (by decide) ?_
      refine E_icmp_ne (pc := 31) O 42 dX4_missing_31 (by decide) hf (fun hf => ?_) (fun hf => ?_)
      · exact E_sub (L' := [some (.ref x0), some (.int x1), none, some (.int x3)]) (And.intro rfl (And.intro rfl (And.intro rfl True.intro))) (t_b_X4_missing_42 O Z _ hr6 x0 x1 x3 hf)
      · refine E_aload_n (pc := 34) O 0 dX4_missing_34 rfl rfl ?_
        refine E_iload_n (pc := 35) O 3 dX4_missing_35 rfl rfl ?_
        refine E_callV_iP (pc := 36) (S := []) O [.int x3] CV_RailSequenceModel_65 rfl (fun r e => t_X4_isFlag e) dX4_missing_36 hf rfl ⟨(Nat.le_of_ble_eq_true rfl), (Nat.le_of_ble_eq_true rfl)⟩ ⟨(Nat.le_of_ble_eq_true rfl), (Nat.le_of_ble_eq_true rfl)⟩ (Nat.le_of_ble_eq_true rfl) (fun v5 hf => ?_)
        refine E_if_ne (pc := 39) O 46 dX4_missing_39 (by decide) hf (fun hf => ?_) (fun hf => ?_)
        · exact t_b_X4_missing_46 O Z _ hr6 x0 x1 x2 x3 hf
        · exact E_sub (L' := [some (.ref x0), some (.int x1), none, some (.int x3)]) (And.intro rfl (And.intro rfl (And.intro rfl True.intro))) (t_b_X4_missing_42 O Z _ hr6 x0 x1 x3 hf)
theorem t_f_X4_missing_6 {K : Cx} {fr : Bool} {out : Int32} {h : MH} (O : Ok K yX4_missing.cls cX4_missing 4 (rmm 2 44 0 0)) (Z : Out K (some .int) fr (some (.int out)) h) : ∀ (n : Nat) (x0 : Nat) (x1 : Int32) (x2 : Int32) (x3 : Int32), f_X4_missing_6 h n x0 x1 x2 x3 = some out → EE K (fr, 0, 0) 6 [some (.ref x0), some (.int x1), some (.int x2), some (.int x3)] [] h := by
  intro n
  induction n with
  | zero => intro x0 x1 x2 x3 hf; cases hf
  | succ n ih => intro x0 x1 x2 x3 hf; exact t_b_X4_missing_6 O Z _ ih x0 x1 x2 x3 hf
set_option maxHeartbeats 4000000 in
set_option maxRecDepth 100000 in
theorem t_X4_missing {g : Gx} {fr : Bool} {h : MH} {x0 x1} {out : Int32} (hf : f_X4_missing h x0 x1 = some out) : MM g yX4_missing cX4_missing 4 (some .int) 2 44 0 0 fr fr [.ref x0, .int x1] h (some (.int out)) h := by
  unfold f_X4_missing at hf
  refine MM_of (L := [some (.ref x0), some (.int x1), none, none]) (by decide) (Nat.le_of_ble_eq_true rfl) rfl (fun K hK O Z hn => ?_)
  refine E_iconst (pc := 0) O (-1 : Int32) dX4_missing_0 (by decide) ?_
  refine E_istore_n (pc := 1) O 2 [some (.ref x0), some (.int x1), some (.int (-1 : Int32)), none] dX4_missing_1 rfl (by decide) rfl rfl ?_
  refine E_iload_n (pc := 2) O 1 dX4_missing_2 rfl rfl ?_
  refine E_iconst (pc := 3) O (1 : Int32) dX4_missing_3 (by decide) ?_
  refine E_isub (pc := 4) O dX4_missing_4 ?_
  obtain ⟨v6, ev6, hf⟩ := ob hf
  have ev6 := os ev6
  rw [ev6]
  refine E_istore_n (pc := 5) O 3 [some (.ref x0), some (.int x1), some (.int (-1 : Int32)), some (.int v6)] dX4_missing_5 rfl (by decide) rfl rfl ?_
  exact t_f_X4_missing_6 O Z FU x0 x1 (-1 : Int32) v6 hf
set_option maxHeartbeats 4000000 in
set_option maxRecDepth 100000 in
theorem t_b_X4_isUsed_78 {K : Cx} {fr : Bool} {out : Int32} {h : MH} (O : Ok K yX4_isUsed.cls cX4_isUsed 5 (rmm 2 43 0 0)) (Z : Out K (some .boolean) fr (some (.int out)) h) (rec6 : Nat → Int32 → Int32 → Int32 → Option Int32) (hr6 : ∀ (x0 : Nat) (x1 : Int32) (x2 : Int32) (x3 : Int32), rec6 x0 x1 x2 x3 = some out → EE K (fr, 0, 0) 6 [some (.ref x0), some (.int x1), some (.int x2), some (.int x3), none] [] h) (x0 : Nat) (x1 : Int32) (x3 : Int32) (s0 : Int32) (hf : b_X4_isUsed_78 h rec6 x0 x1 x3 s0 = some out) : EE K (fr, 0, 0) 78 [some (.ref x0), some (.int x1), none, some (.int x3), none] [.int s0] h := by
  unfold b_X4_isUsed_78 at hf
  refine E_istore_n (pc := 78) O 2 [some (.ref x0), some (.int x1), some (.int s0), some (.int x3), none] dX4_isUsed_78 rfl (by decide) rfl rfl ?_
  refine E_iinc (pc := 79) O (1 : Int32) [some (.ref x0), some (.int x1), some (.int s0), some (.int (x3 + (1 : Int32))), none] dX4_isUsed_79 rfl (by decide) rfl (by decide) rfl ?_
  refine E_goto (pc := 82) O 6 dX4_isUsed_82 (by decide) ?_
  exact hr6 x0 x1 s0 (x3 + (1 : Int32)) hf
set_option maxHeartbeats 4000000 in
set_option maxRecDepth 100000 in
theorem t_b_X4_isUsed_73 {K : Cx} {fr : Bool} {out : Int32} {h : MH} (O : Ok K yX4_isUsed.cls cX4_isUsed 5 (rmm 2 43 0 0)) (Z : Out K (some .boolean) fr (some (.int out)) h) (rec6 : Nat → Int32 → Int32 → Int32 → Option Int32) (hr6 : ∀ (x0 : Nat) (x1 : Int32) (x2 : Int32) (x3 : Int32), rec6 x0 x1 x2 x3 = some out → EE K (fr, 0, 0) 6 [some (.ref x0), some (.int x1), some (.int x2), some (.int x3), none] [] h) (x0 : Nat) (x1 : Int32) (x3 : Int32) (hf : b_X4_isUsed_73 h rec6 x0 x1 x3 = some out) : EE K (fr, 0, 0) 73 [some (.ref x0), some (.int x1), none, some (.int x3), none] [] h := by
  unfold b_X4_isUsed_73 at hf
  refine E_iconst (pc := 73) O (1 : Int32) dX4_isUsed_73 (by decide) ?_
  refine E_goto (pc := 74) O 78 dX4_isUsed_74 (by decide) ?_
  exact t_b_X4_isUsed_78 O Z _ hr6 x0 x1 x3 (1 : Int32) hf
set_option maxHeartbeats 4000000 in
set_option maxRecDepth 100000 in
theorem t_b_X4_isUsed_77 {K : Cx} {fr : Bool} {out : Int32} {h : MH} (O : Ok K yX4_isUsed.cls cX4_isUsed 5 (rmm 2 43 0 0)) (Z : Out K (some .boolean) fr (some (.int out)) h) (rec6 : Nat → Int32 → Int32 → Int32 → Option Int32) (hr6 : ∀ (x0 : Nat) (x1 : Int32) (x2 : Int32) (x3 : Int32), rec6 x0 x1 x2 x3 = some out → EE K (fr, 0, 0) 6 [some (.ref x0), some (.int x1), some (.int x2), some (.int x3), none] [] h) (x0 : Nat) (x1 : Int32) (x3 : Int32) (hf : b_X4_isUsed_77 h rec6 x0 x1 x3 = some out) : EE K (fr, 0, 0) 77 [some (.ref x0), some (.int x1), none, some (.int x3), none] [] h := by
  unfold b_X4_isUsed_77 at hf
  refine E_iconst (pc := 77) O (0 : Int32) dX4_isUsed_77 (by decide) ?_
  exact t_b_X4_isUsed_78 O Z _ hr6 x0 x1 x3 (0 : Int32) hf
set_option maxHeartbeats 4000000 in
set_option maxRecDepth 100000 in
theorem t_b_X4_isUsed_48 {K : Cx} {fr : Bool} {out : Int32} {h : MH} (O : Ok K yX4_isUsed.cls cX4_isUsed 5 (rmm 2 43 0 0)) (Z : Out K (some .boolean) fr (some (.int out)) h) (rec6 : Nat → Int32 → Int32 → Int32 → Option Int32) (hr6 : ∀ (x0 : Nat) (x1 : Int32) (x2 : Int32) (x3 : Int32), rec6 x0 x1 x2 x3 = some out → EE K (fr, 0, 0) 6 [some (.ref x0), some (.int x1), some (.int x2), some (.int x3), none] [] h) (x0 : Nat) (x1 : Int32) (x2 : Int32) (x3 : Int32) (s0 : Int32) (hf : b_X4_isUsed_48 h rec6 x0 x1 x2 x3 s0 = some out) : EE K (fr, 0, 0) 48 [some (.ref x0), some (.int x1), some (.int x2), some (.int x3), none] [.int s0] h := by
  unfold b_X4_isUsed_48 at hf
  refine E_istore (pc := 48) O [some (.ref x0), some (.int x1), some (.int x2), some (.int x3), some (.int s0)] dX4_isUsed_48 (by decide) rfl rfl ?_
  refine E_iload_n (pc := 50) O 2 dX4_isUsed_50 rfl rfl ?_
  refine E_if_ne (pc := 51) O 73 dX4_isUsed_51 (by decide) hf (fun hf => ?_) (fun hf => ?_)
  · exact E_sub (L' := [some (.ref x0), some (.int x1), none, some (.int x3), none]) (And.intro rfl (And.intro rfl (And.intro rfl True.intro))) (t_b_X4_isUsed_73 O Z _ hr6 x0 x1 x3 hf)
  · refine E_aload_n (pc := 54) O 0 dX4_isUsed_54 rfl rfl ?_
    refine E_iload_n (pc := 55) O 3 dX4_isUsed_55 rfl rfl ?_
    refine E_bipush (pc := 56) O (7 : Int32) dX4_isUsed_56 (by decide) ?_
    refine E_callV_iP (pc := 58) (S := []) O [.int x3, .int (7 : Int32)] CV_RailSequenceModel_36 rfl (fun r e => t_X4_of e) dX4_isUsed_58 hf rfl ⟨(Nat.le_of_ble_eq_true rfl), (Nat.le_of_ble_eq_true rfl)⟩ ⟨(Nat.le_of_ble_eq_true rfl), (Nat.le_of_ble_eq_true rfl)⟩ (Nat.le_of_ble_eq_true rfl) (fun v1 hf => ?_)
    refine E_iload_n (pc := 61) O 1 dX4_isUsed_61 rfl rfl ?_
    refine E_callS_iP (pc := 62) (S := []) O [.int v1, .int x1] CS_RailSequenceModel_61 (fun r e => t_X4_has e) dX4_isUsed_62 hf rfl ⟨(Nat.le_of_ble_eq_true rfl), (Nat.le_of_ble_eq_true rfl)⟩ ⟨(Nat.le_of_ble_eq_true rfl), (Nat.le_of_ble_eq_true rfl)⟩ (Nat.le_of_ble_eq_true rfl) (fun v2 hf => ?_)
    refine E_if_eq (pc := 65) O 77 dX4_isUsed_65 (by decide) hf (fun hf => ?_) (fun hf => ?_)
    · exact E_sub (L' := [some (.ref x0), some (.int x1), none, some (.int x3), none]) (And.intro rfl (And.intro rfl (And.intro rfl True.intro))) (t_b_X4_isUsed_77 O Z _ hr6 x0 x1 x3 hf)
    · refine E_iload (pc := 68) O dX4_isUsed_68 rfl ?_
      refine E_if_ne (pc := 70) O 77 dX4_isUsed_70 (by decide) hf (fun hf => ?_) (fun hf => ?_)
      · exact E_sub (L' := [some (.ref x0), some (.int x1), none, some (.int x3), none]) (And.intro rfl (And.intro rfl (And.intro rfl True.intro))) (t_b_X4_isUsed_77 O Z _ hr6 x0 x1 x3 hf)
      · exact E_sub (L' := [some (.ref x0), some (.int x1), none, some (.int x3), none]) (And.intro rfl (And.intro rfl (And.intro rfl True.intro))) (t_b_X4_isUsed_73 O Z _ hr6 x0 x1 x3 hf)
set_option maxHeartbeats 4000000 in
set_option maxRecDepth 100000 in
theorem t_b_X4_isUsed_43 {K : Cx} {fr : Bool} {out : Int32} {h : MH} (O : Ok K yX4_isUsed.cls cX4_isUsed 5 (rmm 2 43 0 0)) (Z : Out K (some .boolean) fr (some (.int out)) h) (rec6 : Nat → Int32 → Int32 → Int32 → Option Int32) (hr6 : ∀ (x0 : Nat) (x1 : Int32) (x2 : Int32) (x3 : Int32), rec6 x0 x1 x2 x3 = some out → EE K (fr, 0, 0) 6 [some (.ref x0), some (.int x1), some (.int x2), some (.int x3), none] [] h) (x0 : Nat) (x1 : Int32) (x2 : Int32) (x3 : Int32) (hf : b_X4_isUsed_43 h rec6 x0 x1 x2 x3 = some out) : EE K (fr, 0, 0) 43 [some (.ref x0), some (.int x1), some (.int x2), some (.int x3), none] [] h := by
  unfold b_X4_isUsed_43 at hf
  refine E_iconst (pc := 43) O (1 : Int32) dX4_isUsed_43 (by decide) ?_
  refine E_goto (pc := 44) O 48 dX4_isUsed_44 (by decide) ?_
  exact t_b_X4_isUsed_48 O Z _ hr6 x0 x1 x2 x3 (1 : Int32) hf
set_option maxHeartbeats 4000000 in
set_option maxRecDepth 100000 in
theorem t_b_X4_isUsed_47 {K : Cx} {fr : Bool} {out : Int32} {h : MH} (O : Ok K yX4_isUsed.cls cX4_isUsed 5 (rmm 2 43 0 0)) (Z : Out K (some .boolean) fr (some (.int out)) h) (rec6 : Nat → Int32 → Int32 → Int32 → Option Int32) (hr6 : ∀ (x0 : Nat) (x1 : Int32) (x2 : Int32) (x3 : Int32), rec6 x0 x1 x2 x3 = some out → EE K (fr, 0, 0) 6 [some (.ref x0), some (.int x1), some (.int x2), some (.int x3), none] [] h) (x0 : Nat) (x1 : Int32) (x2 : Int32) (x3 : Int32) (hf : b_X4_isUsed_47 h rec6 x0 x1 x2 x3 = some out) : EE K (fr, 0, 0) 47 [some (.ref x0), some (.int x1), some (.int x2), some (.int x3), none] [] h := by
  unfold b_X4_isUsed_47 at hf
  refine E_iconst (pc := 47) O (0 : Int32) dX4_isUsed_47 (by decide) ?_
  exact t_b_X4_isUsed_48 O Z _ hr6 x0 x1 x2 x3 (0 : Int32) hf
set_option maxHeartbeats 4000000 in
set_option maxRecDepth 100000 in
theorem t_b_X4_isUsed_6 {K : Cx} {fr : Bool} {out : Int32} {h : MH} (O : Ok K yX4_isUsed.cls cX4_isUsed 5 (rmm 2 43 0 0)) (Z : Out K (some .boolean) fr (some (.int out)) h) (rec6 : Nat → Int32 → Int32 → Int32 → Option Int32) (hr6 : ∀ (x0 : Nat) (x1 : Int32) (x2 : Int32) (x3 : Int32), rec6 x0 x1 x2 x3 = some out → EE K (fr, 0, 0) 6 [some (.ref x0), some (.int x1), some (.int x2), some (.int x3), none] [] h) (x0 : Nat) (x1 : Int32) (x2 : Int32) (x3 : Int32) (hf : b_X4_isUsed_6 h rec6 x0 x1 x2 x3 = some out) : EE K (fr, 0, 0) 6 [some (.ref x0), some (.int x1), some (.int x2), some (.int x3), none] [] h := by
  unfold b_X4_isUsed_6 at hf
  refine E_iload_n (pc := 6) O 3 dX4_isUsed_6 rfl rfl ?_
  refine E_aload_n (pc := 7) O 0 dX4_isUsed_7 rfl rfl ?_
  refine E_getR (pc := 8) O FL_RailSequenceModel_7 dX4_isUsed_8 hf (fun v3 hf => ?_)
  refine E_iconst (pc := 11) O (0 : Int32) dX4_isUsed_11 (by decide) ?_
  refine E_iaload (pc := 12) O dX4_isUsed_12 hf (fun v4 hf => ?_)
  refine E_icmp_ge (pc := 13) O 85 dX4_isUsed_13 (by decide) hf (fun hf => ?_) (fun hf => ?_)
  · refine E_iload_n (pc := 85) O 2 dX4_isUsed_85 rfl rfl ?_
    exact E_zretP (pc := 86) O Z hf ⟨(Nat.le_of_ble_eq_true rfl), (Nat.le_of_ble_eq_true rfl)⟩ dX4_isUsed_86
  · refine E_aload_n (pc := 16) O 0 dX4_isUsed_16 rfl rfl ?_
    refine E_iload_n (pc := 17) O 3 dX4_isUsed_17 rfl rfl ?_
    refine E_callV_iP (pc := 18) (S := []) O [.int x3] CV_RailSequenceModel_69 rfl (fun r e => t_X4_isDischarged e) dX4_isUsed_18 hf rfl ⟨(Nat.le_of_ble_eq_true rfl), (Nat.le_of_ble_eq_true rfl)⟩ ⟨(Nat.le_of_ble_eq_true rfl), (Nat.le_of_ble_eq_true rfl)⟩ (Nat.le_of_ble_eq_true rfl) (fun v5 hf => ?_)
    refine E_if_eq (pc := 21) O 47 dX4_isUsed_21 (by decide) hf (fun hf => ?_) (fun hf => ?_)
    · exact t_b_X4_isUsed_47 O Z _ hr6 x0 x1 x2 x3 hf
    · refine E_aload_n (pc := 24) O 0 dX4_isUsed_24 rfl rfl ?_
      refine E_getR (pc := 25) O FL_RailSequenceModel_19 dX4_isUsed_25 hf (fun v6 hf => ?_)
      refine E_iload_n (pc := 28) O 3 dX4_isUsed_28 rfl rfl ?_
      refine E_iaload (pc := 29) O dX4_isUsed_29 hf (fun v7 hf => ?_)
      refine E_if_eq (pc := 30) O 43 dX4_isUsed_30 (by decide) hf (fun hf => ?_) (fun hf => ?_)
      · exact t_b_X4_isUsed_43 O Z _ hr6 x0 x1 x2 x3 hf
      · refine E_aload_n (pc := 33) O 0 dX4_isUsed_33 rfl rfl ?_
        refine E_getR (pc := 34) O FL_RailSequenceModel_19 dX4_isUsed_34 hf (fun v8 hf => ?_)
        refine E_iload_n (pc := 37) O 3 dX4_isUsed_37 rfl rfl ?_
        refine E_iaload (pc := 38) O dX4_isUsed_38 hf (fun v9 hf => ?_)
        refine E_iconst (pc := 39) O (5 : Int32) dX4_isUsed_39 (by decide) ?_
        refine E_icmp_ne (pc := 40) O 47 dX4_isUsed_40 (by decide) hf (fun hf => ?_) (fun hf => ?_)
        · exact t_b_X4_isUsed_47 O Z _ hr6 x0 x1 x2 x3 hf
        · exact t_b_X4_isUsed_43 O Z _ hr6 x0 x1 x2 x3 hf
theorem t_f_X4_isUsed_6 {K : Cx} {fr : Bool} {out : Int32} {h : MH} (O : Ok K yX4_isUsed.cls cX4_isUsed 5 (rmm 2 43 0 0)) (Z : Out K (some .boolean) fr (some (.int out)) h) : ∀ (n : Nat) (x0 : Nat) (x1 : Int32) (x2 : Int32) (x3 : Int32), f_X4_isUsed_6 h n x0 x1 x2 x3 = some out → EE K (fr, 0, 0) 6 [some (.ref x0), some (.int x1), some (.int x2), some (.int x3), none] [] h := by
  intro n
  induction n with
  | zero => intro x0 x1 x2 x3 hf; cases hf
  | succ n ih => intro x0 x1 x2 x3 hf; exact t_b_X4_isUsed_6 O Z _ ih x0 x1 x2 x3 hf
set_option maxHeartbeats 4000000 in
set_option maxRecDepth 100000 in
theorem t_X4_isUsed {g : Gx} {fr : Bool} {h : MH} {x0 x1} {out : Int32} (hf : f_X4_isUsed h x0 x1 = some out) : MM g yX4_isUsed cX4_isUsed 5 (some .boolean) 2 43 0 0 fr fr [.ref x0, .int x1] h (some (.int out)) h := by
  unfold f_X4_isUsed at hf
  refine MM_of (L := [some (.ref x0), some (.int x1), none, none, none]) (by decide) (Nat.le_of_ble_eq_true rfl) rfl (fun K hK O Z hn => ?_)
  refine E_iconst (pc := 0) O (0 : Int32) dX4_isUsed_0 (by decide) ?_
  refine E_istore_n (pc := 1) O 2 [some (.ref x0), some (.int x1), some (.int (0 : Int32)), none, none] dX4_isUsed_1 rfl (by decide) rfl rfl ?_
  refine E_iload_n (pc := 2) O 1 dX4_isUsed_2 rfl rfl ?_
  refine E_iconst (pc := 3) O (1 : Int32) dX4_isUsed_3 (by decide) ?_
  refine E_iadd (pc := 4) O dX4_isUsed_4 ?_
  obtain ⟨v10, ev10, hf⟩ := ob hf
  have ev10 := os ev10
  rw [ev10]
  refine E_istore_n (pc := 5) O 3 [some (.ref x0), some (.int x1), some (.int (0 : Int32)), some (.int v10), none] dX4_isUsed_5 rfl (by decide) rfl rfl ?_
  exact t_f_X4_isUsed_6 O Z FU x0 x1 (0 : Int32) v10 hf
set_option maxHeartbeats 4000000 in
set_option maxRecDepth 100000 in
theorem t_b_X4_fail_38 {K : Cx} {fr : Bool} {out : MH} (O : Ok K yX4_fail.cls cX4_fail 2 (rmm 3 69 0 0)) (Z : Out K none fr none out) (h : MH) (x1 : Int32) (s0 : Nat) (s1 : Int32) (s2 : Int32) (hf : b_X4_fail_38 h x1 s0 s1 s2 = some out) : EE K (fr, 0, 0) 38 [none, some (.int x1)] [.int s2, .int s1, .ref s0] h := by
  unfold b_X4_fail_38 at hf
  refine E_iload_n (pc := 38) O 1 dX4_fail_38 rfl rfl ?_
  refine E_callV_v (pc := 39) (S := []) O [.int s1, .int s2, .int x1] CV_RailSequenceModel_72 rfl (fun r e => t_X4_becomeFor e) dX4_fail_39 hf rfl ⟨(Nat.le_of_ble_eq_true rfl), (Nat.le_of_ble_eq_true rfl)⟩ ⟨(Nat.le_of_ble_eq_true rfl), (Nat.le_of_ble_eq_true rfl)⟩ (Nat.le_of_ble_eq_true rfl) (fun h1 hf => ?_)
  exact E_vret (pc := 42) O Z hf ⟨(Nat.le_of_ble_eq_true rfl), (Nat.le_of_ble_eq_true rfl)⟩ dX4_fail_42
set_option maxHeartbeats 4000000 in
set_option maxRecDepth 100000 in
theorem t_X4_fail {g : Gx} {fr : Bool} {h : MH} {x0 x1} {out : MH} (hf : f_X4_fail h x0 x1 = some out) : MM g yX4_fail cX4_fail 2 none 3 69 0 0 fr fr [.ref x0, .int x1] h none out := by
  unfold f_X4_fail at hf
  refine MM_of (L := [some (.ref x0), some (.int x1)]) (by decide) (Nat.le_of_ble_eq_true rfl) rfl (fun K hK O Z hn => ?_)
  refine E_aload_n (pc := 0) O 0 dX4_fail_0 rfl rfl ?_
  refine E_iload_n (pc := 1) O 1 dX4_fail_1 rfl rfl ?_
  refine E_bipush (pc := 2) O (14 : Int32) dX4_fail_2 (by decide) ?_
  refine E_callV_v (pc := 4) (S := []) O [.int x1, .int (14 : Int32)] CV_RailSequenceModel_50 rfl (fun r e => t_X4_add e) dX4_fail_4 hf rfl ⟨(Nat.le_of_ble_eq_true rfl), (Nat.le_of_ble_eq_true rfl)⟩ ⟨(Nat.le_of_ble_eq_true rfl), (Nat.le_of_ble_eq_true rfl)⟩ (Nat.le_of_ble_eq_true rfl) (fun h2 hf => ?_)
  refine E_aload_n (pc := 7) O 0 dX4_fail_7 rfl rfl ?_
  refine E_iload_n (pc := 8) O 1 dX4_fail_8 rfl rfl ?_
  refine E_bipush (pc := 9) O (18 : Int32) dX4_fail_9 (by decide) ?_
  refine E_callV_v (pc := 11) (S := []) O [.int x1, .int (18 : Int32)] CV_RailSequenceModel_50 rfl (fun r e => t_X4_add e) dX4_fail_11 hf rfl ⟨(Nat.le_of_ble_eq_true rfl), (Nat.le_of_ble_eq_true rfl)⟩ ⟨(Nat.le_of_ble_eq_true rfl), (Nat.le_of_ble_eq_true rfl)⟩ (Nat.le_of_ble_eq_true rfl) (fun h3 hf => ?_)
  refine E_aload_n (pc := 14) O 0 dX4_fail_14 rfl rfl ?_
  refine E_iload_n (pc := 15) O 1 dX4_fail_15 rfl rfl ?_
  refine E_aload_n (pc := 16) O 0 dX4_fail_16 rfl rfl ?_
  refine E_iload_n (pc := 17) O 1 dX4_fail_17 rfl rfl ?_
  refine E_bipush (pc := 18) O (14 : Int32) dX4_fail_18 (by decide) ?_
  refine E_callV_iP (pc := 20) (S := [.int x1, .ref x0]) O [.int x1, .int (14 : Int32)] CV_RailSequenceModel_36 rfl (fun r e => t_X4_of e) dX4_fail_20 hf rfl ⟨(Nat.le_of_ble_eq_true rfl), (Nat.le_of_ble_eq_true rfl)⟩ ⟨(Nat.le_of_ble_eq_true rfl), (Nat.le_of_ble_eq_true rfl)⟩ (Nat.le_of_ble_eq_true rfl) (fun v4 hf => ?_)
  refine E_aload_n (pc := 23) O 0 dX4_fail_23 rfl rfl ?_
  refine E_iload_n (pc := 24) O 1 dX4_fail_24 rfl rfl ?_
  refine E_bipush (pc := 25) O (6 : Int32) dX4_fail_25 (by decide) ?_
  refine E_callV_iP (pc := 27) (S := [.int v4, .int x1, .ref x0]) O [.int x1, .int (6 : Int32)] CV_RailSequenceModel_36 rfl (fun r e => t_X4_of e) dX4_fail_27 hf rfl ⟨(Nat.le_of_ble_eq_true rfl), (Nat.le_of_ble_eq_true rfl)⟩ ⟨(Nat.le_of_ble_eq_true rfl), (Nat.le_of_ble_eq_true rfl)⟩ (Nat.le_of_ble_eq_true rfl) (fun v5 hf => ?_)
  refine E_icmp_lt (pc := 30) O 37 dX4_fail_30 (by decide) hf (fun hf => ?_) (fun hf => ?_)
  · refine E_iconst (pc := 37) O (4 : Int32) dX4_fail_37 (by decide) ?_
    exact E_sub (L' := [none, some (.int x1)]) (And.intro rfl True.intro) (t_b_X4_fail_38 O Z h3 x1 x0 x1 (4 : Int32) hf)
  · refine E_iconst (pc := 33) O (5 : Int32) dX4_fail_33 (by decide) ?_
    refine E_goto (pc := 34) O 38 dX4_fail_34 (by decide) ?_
    exact E_sub (L' := [none, some (.int x1)]) (And.intro rfl True.intro) (t_b_X4_fail_38 O Z h3 x1 x0 x1 (5 : Int32) hf)
