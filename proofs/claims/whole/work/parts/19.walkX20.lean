/-! walks: the machine does what the plain functions say: written by program -/
set_option maxHeartbeats 4000000 in
set_option maxRecDepth 100000 in
theorem t_X2_init {g : Gx} {h : MH} {x0} {out : MH} (hf : f_X2_init h x0 = some out) : MM g yX2_init cX2_init 1 none 1 60 1 3 true true [.ref x0] h none out := by
  unfold f_X2_init at hf
  refine MM_of (L := [some (.ref x0)]) (by decide) (Nat.le_of_ble_eq_true rfl) rfl (fun K hK O Z hn => ?_)
  refine E_aload_n (pc := 0) O 0 dX2_init_0 rfl rfl ?_
  refine E_objInit (pc := 1) O (aw1 116 (by decide +kernel) rfl) (aw1 21 (by decide +kernel) rfl) (aw1 22 (by decide +kernel) rfl) (Nat.le_of_ble_eq_true rfl) (Nat.le_of_ble_eq_true rfl) dX2_init_1 ?_
  refine E_aload_n (pc := 4) O 0 dX2_init_4 rfl rfl ?_
  refine E_iconst (pc := 5) O (3 : Int32) dX2_init_5 (by decide) ?_
  refine E_newaI (pc := 6) O (aw1 43 (by decide +kernel) rfl) dX2_init_6 (by decide) (by decide) (Nat.le_of_ble_eq_true rfl) hf ⟨(Nat.le_of_ble_eq_true rfl), (Nat.le_of_ble_eq_true rfl)⟩ (fun h1 hf => ?_)
  show EE K (true, 1, 3) _ _ _ _
  refine E_putF (pc := 8) O FF_RailSequence_TextReader_11 hn rfl rfl dX2_init_8 hf (fun h2 hf => ?_)
  exact E_vret (pc := 11) O Z hf ⟨(Nat.le_of_ble_eq_true rfl), (Nat.le_of_ble_eq_true rfl)⟩ dX2_init_11
set_option maxHeartbeats 4000000 in
set_option maxRecDepth 100000 in
theorem t_b_X2_begin_2 {K : Cx} {fr : Bool} {out : MH} (O : Ok K yX2_begin.cls cX2_begin 2 (rmm 0 0 0 0)) (Z : Out K none fr none out) (rec2 : MH → Nat → Int32 → Option MH) (hr2 : ∀ (h : MH) (x0 : Nat) (x1 : Int32), rec2 h x0 x1 = some out → EE K (fr, 0, 0) 2 [some (.ref x0), some (.int x1)] [] h) (h : MH) (x0 : Nat) (x1 : Int32) (hf : b_X2_begin_2 rec2 h x0 x1 = some out) : EE K (fr, 0, 0) 2 [some (.ref x0), some (.int x1)] [] h := by
  unfold b_X2_begin_2 at hf
  refine E_iload_n (pc := 2) O 1 dX2_begin_2 rfl rfl ?_
  refine E_iconst (pc := 3) O (3 : Int32) dX2_begin_3 (by decide) ?_
  refine E_icmp_ge (pc := 4) O 20 dX2_begin_4 (by decide) hf (fun hf => ?_) (fun hf => ?_)
  · refine E_aload_n (pc := 20) O 0 dX2_begin_20 rfl rfl ?_
    refine E_iconst (pc := 21) O (0 : Int32) dX2_begin_21 (by decide) ?_
    refine E_put (pc := 22) O FN_RailSequence_TextReader_15 rfl rfl dX2_begin_22 hf (fun h1 hf => ?_)
    refine E_aload_n (pc := 25) O 0 dX2_begin_25 rfl rfl ?_
    refine E_iconst (pc := 26) O (0 : Int32) dX2_begin_26 (by decide) ?_
    refine E_put (pc := 27) O FN_RailSequence_TextReader_19 rfl rfl dX2_begin_27 hf (fun h2 hf => ?_)
    refine E_aload_n (pc := 30) O 0 dX2_begin_30 rfl rfl ?_
    refine E_iconst (pc := 31) O (-1 : Int32) dX2_begin_31 (by decide) ?_
    refine E_put (pc := 32) O FN_RailSequence_TextReader_22 rfl rfl dX2_begin_32 hf (fun h3 hf => ?_)
    exact E_vret (pc := 35) O Z hf ⟨(Nat.le_of_ble_eq_true rfl), (Nat.le_of_ble_eq_true rfl)⟩ dX2_begin_35
  · refine E_aload_n (pc := 7) O 0 dX2_begin_7 rfl rfl ?_
    refine E_getR (pc := 8) O FL_RailSequence_TextReader_11 dX2_begin_8 hf (fun v4 hf => ?_)
    refine E_iload_n (pc := 11) O 1 dX2_begin_11 rfl rfl ?_
    refine E_iconst (pc := 12) O (0 : Int32) dX2_begin_12 (by decide) ?_
    refine E_iastore (pc := 13) O dX2_begin_13 hf (fun h5 hf => ?_)
    refine E_iinc (pc := 14) O (1 : Int32) [some (.ref x0), some (.int (x1 + (1 : Int32)))] dX2_begin_14 rfl (by decide) rfl (by decide) rfl ?_
    refine E_goto (pc := 17) O 2 dX2_begin_17 (by decide) ?_
    exact hr2 h5 x0 (x1 + (1 : Int32)) hf
theorem t_f_X2_begin_2 {K : Cx} {fr : Bool} {out : MH} (O : Ok K yX2_begin.cls cX2_begin 2 (rmm 0 0 0 0)) (Z : Out K none fr none out) : ∀ (n : Nat) (h : MH) (x0 : Nat) (x1 : Int32), f_X2_begin_2 n h x0 x1 = some out → EE K (fr, 0, 0) 2 [some (.ref x0), some (.int x1)] [] h := by
  intro n
  induction n with
  | zero => intro h x0 x1 hf; cases hf
  | succ n ih => intro h x0 x1 hf; exact t_b_X2_begin_2 O Z _ ih h x0 x1 hf
set_option maxHeartbeats 4000000 in
set_option maxRecDepth 100000 in
theorem t_X2_begin {g : Gx} {fr : Bool} {h : MH} {x0} {out : MH} (hf : f_X2_begin h x0 = some out) : MM g yX2_begin cX2_begin 2 none 0 0 0 0 fr fr [.ref x0] h none out := by
  unfold f_X2_begin at hf
  refine MM_of (L := [some (.ref x0), none]) (by decide) (Nat.le_of_ble_eq_true rfl) rfl (fun K hK O Z hn => ?_)
  refine E_iconst (pc := 0) O (0 : Int32) dX2_begin_0 (by decide) ?_
  refine E_istore_n (pc := 1) O 1 [some (.ref x0), some (.int (0 : Int32))] dX2_begin_1 rfl (by decide) rfl rfl ?_
  exact t_f_X2_begin_2 O Z FU h x0 (0 : Int32) hf
set_option maxHeartbeats 4000000 in
set_option maxRecDepth 100000 in
theorem t_b_X2_takeNeed_14 {K : Cx} {fr : Bool} {out : (Int32 × MH)} (O : Ok K yX2_takeNeed.cls cX2_takeNeed 2 (rmm 0 0 0 0)) (Z : Out K (some .boolean) fr (some (.int out.1)) out.2) (h : MH) (hf : b_X2_takeNeed_14 h = some out) : EE K (fr, 0, 0) 14 [none, none] [] h := by
  unfold b_X2_takeNeed_14 at hf
  refine E_iconst (pc := 14) O (0 : Int32) dX2_takeNeed_14 (by decide) ?_
  exact E_zret (pc := 15) O Z hf ⟨(Nat.le_of_ble_eq_true rfl), (Nat.le_of_ble_eq_true rfl)⟩ dX2_takeNeed_15
set_option maxHeartbeats 4000000 in
set_option maxRecDepth 100000 in
theorem t_X2_takeNeed {g : Gx} {fr : Bool} {h : MH} {x0 x1} {out : (Int32 × MH)} (hf : f_X2_takeNeed h x0 x1 = some out) : MM g yX2_takeNeed cX2_takeNeed 2 (some .boolean) 0 0 0 0 fr fr [.ref x0, .int x1] h (some (.int out.1)) out.2 := by
  unfold f_X2_takeNeed at hf
  refine MM_of (L := [some (.ref x0), some (.int x1)]) (by decide) (Nat.le_of_ble_eq_true rfl) rfl (fun K hK O Z hn => ?_)
  refine E_iload_n (pc := 0) O 1 dX2_takeNeed_0 rfl rfl ?_
  refine E_bipush (pc := 1) O (6 : Int32) dX2_takeNeed_1 (by decide) ?_
  refine E_icmp_gt (pc := 3) O 14 dX2_takeNeed_3 (by decide) hf (fun hf => ?_) (fun hf => ?_)
  · exact E_sub (L' := [none, none]) True.intro (t_b_X2_takeNeed_14 O Z h hf)
  · refine E_iload_n (pc := 6) O 1 dX2_takeNeed_6 rfl rfl ?_
    refine E_aload_n (pc := 7) O 0 dX2_takeNeed_7 rfl rfl ?_
    refine E_getI (pc := 8) O FL_RailSequence_TextReader_22 dX2_takeNeed_8 hf (fun v1 hf => ?_)
    refine E_icmp_gt (pc := 11) O 16 dX2_takeNeed_11 (by decide) hf (fun hf => ?_) (fun hf => ?_)
    · refine E_aload_n (pc := 16) O 0 dX2_takeNeed_16 rfl rfl ?_
      refine E_dup (pc := 17) O dX2_takeNeed_17 rfl ?_
      refine E_getI (pc := 18) O FL_RailSequence_TextReader_15 dX2_takeNeed_18 hf (fun v2 hf => ?_)
      refine E_iconst (pc := 21) O (1 : Int32) dX2_takeNeed_21 (by decide) ?_
      refine E_iload_n (pc := 22) O 1 dX2_takeNeed_22 rfl rfl ?_
      refine E_ishl (pc := 23) O dX2_takeNeed_23 ?_
      refine E_ior (pc := 24) O dX2_takeNeed_24 ?_
      refine E_put (pc := 25) O FN_RailSequence_TextReader_15 rfl rfl dX2_takeNeed_25 hf (fun h3 hf => ?_)
      refine E_aload_n (pc := 28) O 0 dX2_takeNeed_28 rfl rfl ?_
      refine E_iload_n (pc := 29) O 1 dX2_takeNeed_29 rfl rfl ?_
      refine E_put (pc := 30) O FN_RailSequence_TextReader_22 rfl rfl dX2_takeNeed_30 hf (fun h4 hf => ?_)
      refine E_iconst (pc := 33) O (1 : Int32) dX2_takeNeed_33 (by decide) ?_
      exact E_zret (pc := 34) O Z hf ⟨(Nat.le_of_ble_eq_true rfl), (Nat.le_of_ble_eq_true rfl)⟩ dX2_takeNeed_34
    · exact E_sub (L' := [none, none]) True.intro (t_b_X2_takeNeed_14 O Z h hf)
set_option maxHeartbeats 4000000 in
set_option maxRecDepth 100000 in
theorem t_b_X2_takeDigit_31 {K : Cx} {fr : Bool} {out : (Int32 × MH)} (O : Ok K yX2_takeDigit.cls cX2_takeDigit 3 (rmm 0 0 0 0)) (Z : Out K (some .boolean) fr (some (.int out.1)) out.2) (h : MH) (hf : b_X2_takeDigit_31 h = some out) : EE K (fr, 0, 0) 31 [none, none, none] [] h := by
  unfold b_X2_takeDigit_31 at hf
  refine E_iconst (pc := 31) O (0 : Int32) dX2_takeDigit_31 (by decide) ?_
  exact E_zret (pc := 32) O Z hf ⟨(Nat.le_of_ble_eq_true rfl), (Nat.le_of_ble_eq_true rfl)⟩ dX2_takeDigit_32
set_option maxHeartbeats 4000000 in
set_option maxRecDepth 100000 in
theorem t_X2_takeDigit {g : Gx} {fr : Bool} {h : MH} {x0 x1} {out : (Int32 × MH)} (hf : f_X2_takeDigit h x0 x1 = some out) : MM g yX2_takeDigit cX2_takeDigit 3 (some .boolean) 0 0 0 0 fr fr [.ref x0, .int x1] h (some (.int out.1)) out.2 := by
  unfold f_X2_takeDigit at hf
  refine MM_of (L := [some (.ref x0), some (.int x1), none]) (by decide) (Nat.le_of_ble_eq_true rfl) rfl (fun K hK O Z hn => ?_)
  refine E_aload_n (pc := 0) O 0 dX2_takeDigit_0 rfl rfl ?_
  refine E_getR (pc := 1) O FL_RailSequence_TextReader_11 dX2_takeDigit_1 hf (fun v1 hf => ?_)
  refine E_aload_n (pc := 4) O 0 dX2_takeDigit_4 rfl rfl ?_
  refine E_getI (pc := 5) O FL_RailSequence_TextReader_19 dX2_takeDigit_5 hf (fun v2 hf => ?_)
  refine E_iaload (pc := 8) O dX2_takeDigit_8 hf (fun v3 hf => ?_)
  refine E_bipush (pc := 9) O (10 : Int32) dX2_takeDigit_9 (by decide) ?_
  refine E_imul (pc := 11) O dX2_takeDigit_11 ?_
  refine E_iload_n (pc := 12) O 1 dX2_takeDigit_12 rfl rfl ?_
  refine E_iadd (pc := 13) O dX2_takeDigit_13 ?_
  obtain ⟨v4, ev4, hf⟩ := ob hf
  have ev4 := os ev4
  rw [ev4]
  refine E_istore_n (pc := 14) O 2 [some (.ref x0), some (.int x1), some (.int v4)] dX2_takeDigit_14 rfl (by decide) rfl rfl ?_
  refine E_iload_n (pc := 15) O 2 dX2_takeDigit_15 rfl rfl ?_
  refine E_if_eq (pc := 16) O 31 dX2_takeDigit_16 (by decide) hf (fun hf => ?_) (fun hf => ?_)
  · exact E_sub (L' := [none, none, none]) True.intro (t_b_X2_takeDigit_31 O Z h hf)
  · refine E_iload_n (pc := 19) O 2 dX2_takeDigit_19 rfl rfl ?_
    refine E_getsMOSTN (pc := 20) O (List.mem_filter.mpr ⟨List.mem_append_left _ (List.mem_of_getElem? (i := 182) (by decide +kernel)), rfl⟩) dX2_takeDigit_20 ?_
    refine E_aload_n (pc := 23) O 0 dX2_takeDigit_23 rfl rfl ?_
    refine E_getI (pc := 24) O FL_RailSequence_TextReader_19 dX2_takeDigit_24 hf (fun v5 hf => ?_)
    refine E_ialoadRO (pc := 27) (i := 2) O (by decide) rfl dX2_takeDigit_27 hf (fun v6 hf => ?_)
    refine E_icmp_le (pc := 28) O 33 dX2_takeDigit_28 (by decide) hf (fun hf => ?_) (fun hf => ?_)
    · refine E_aload_n (pc := 33) O 0 dX2_takeDigit_33 rfl rfl ?_
      refine E_getR (pc := 34) O FL_RailSequence_TextReader_11 dX2_takeDigit_34 hf (fun v7 hf => ?_)
      refine E_aload_n (pc := 37) O 0 dX2_takeDigit_37 rfl rfl ?_
      refine E_getI (pc := 38) O FL_RailSequence_TextReader_19 dX2_takeDigit_38 hf (fun v8 hf => ?_)
      refine E_iload_n (pc := 41) O 2 dX2_takeDigit_41 rfl rfl ?_
      refine E_iastore (pc := 42) O dX2_takeDigit_42 hf (fun h9 hf => ?_)
      refine E_iconst (pc := 43) O (1 : Int32) dX2_takeDigit_43 (by decide) ?_
      exact E_zret (pc := 44) O Z hf ⟨(Nat.le_of_ble_eq_true rfl), (Nat.le_of_ble_eq_true rfl)⟩ dX2_takeDigit_44
    · exact E_sub (L' := [none, none, none]) True.intro (t_b_X2_takeDigit_31 O Z h hf)
set_option maxHeartbeats 4000000 in
set_option maxRecDepth 100000 in
theorem t_b_X2_isNumberComplete_25 {K : Cx} {fr : Bool} {out : Int32} {h : MH} (O : Ok K yX2_isNumberComplete.cls cX2_isNumberComplete 1 (rmm 0 0 0 0)) (Z : Out K (some .boolean) fr (some (.int out)) h) (s0 : Int32) (hf : b_X2_isNumberComplete_25 h s0 = some out) : EE K (fr, 0, 0) 25 [none] [.int s0] h := by
  unfold b_X2_isNumberComplete_25 at hf
  exact E_zretP (pc := 25) O Z hf ⟨(Nat.le_of_ble_eq_true rfl), (Nat.le_of_ble_eq_true rfl)⟩ dX2_isNumberComplete_25
set_option maxHeartbeats 4000000 in
set_option maxRecDepth 100000 in
theorem t_X2_isNumberComplete {g : Gx} {fr : Bool} {h : MH} {x0} {out : Int32} (hf : f_X2_isNumberComplete h x0 = some out) : MM g yX2_isNumberComplete cX2_isNumberComplete 1 (some .boolean) 0 0 0 0 fr fr [.ref x0] h (some (.int out)) h := by
  unfold f_X2_isNumberComplete at hf
  refine MM_of (L := [some (.ref x0)]) (by decide) (Nat.le_of_ble_eq_true rfl) rfl (fun K hK O Z hn => ?_)
  refine E_aload_n (pc := 0) O 0 dX2_isNumberComplete_0 rfl rfl ?_
  refine E_getR (pc := 1) O FL_RailSequence_TextReader_11 dX2_isNumberComplete_1 hf (fun v1 hf => ?_)
  refine E_aload_n (pc := 4) O 0 dX2_isNumberComplete_4 rfl rfl ?_
  refine E_getI (pc := 5) O FL_RailSequence_TextReader_19 dX2_isNumberComplete_5 hf (fun v2 hf => ?_)
  refine E_iaload (pc := 8) O dX2_isNumberComplete_8 hf (fun v3 hf => ?_)
  refine E_getsLEASTN (pc := 9) O (List.mem_filter.mpr ⟨List.mem_append_left _ (List.mem_of_getElem? (i := 192) (by decide +kernel)), rfl⟩) dX2_isNumberComplete_9 ?_
  refine E_aload_n (pc := 12) O 0 dX2_isNumberComplete_12 rfl rfl ?_
  refine E_getI (pc := 13) O FL_RailSequence_TextReader_19 dX2_isNumberComplete_13 hf (fun v4 hf => ?_)
  refine E_ialoadRO (pc := 16) (i := 1) O (by decide) rfl dX2_isNumberComplete_16 hf (fun v5 hf => ?_)
  refine E_icmp_lt (pc := 17) O 24 dX2_isNumberComplete_17 (by decide) hf (fun hf => ?_) (fun hf => ?_)
  · refine E_iconst (pc := 24) O (0 : Int32) dX2_isNumberComplete_24 (by decide) ?_
    exact E_sub (L' := [none]) True.intro (t_b_X2_isNumberComplete_25 O Z (0 : Int32) hf)
  · refine E_iconst (pc := 20) O (1 : Int32) dX2_isNumberComplete_20 (by decide) ?_
    refine E_goto (pc := 21) O 25 dX2_isNumberComplete_21 (by decide) ?_
    exact E_sub (L' := [none]) True.intro (t_b_X2_isNumberComplete_25 O Z (1 : Int32) hf)
set_option maxHeartbeats 4000000 in
set_option maxRecDepth 100000 in
theorem t_X2_takePart {g : Gx} {fr : Bool} {h : MH} {x0 x1} {out : (Int32 × MH)} (hf : f_X2_takePart h x0 x1 = some out) : MM g yX2_takePart cX2_takePart 2 (some .boolean) 1 20 0 0 fr fr [.ref x0, .int x1] h (some (.int out.1)) out.2 := by
  unfold f_X2_takePart at hf
  refine MM_of (L := [some (.ref x0), some (.int x1)]) (by decide) (Nat.le_of_ble_eq_true rfl) rfl (fun K hK O Z hn => ?_)
  refine E_aload_n (pc := 0) O 0 dX2_takePart_0 rfl rfl ?_
  refine E_callV_iP (pc := 1) (S := []) O [] CV_RailSequence_TextReader_42 rfl (fun r e => t_X2_isNumberComplete e) dX2_takePart_1 hf rfl ⟨(Nat.le_of_ble_eq_true rfl), (Nat.le_of_ble_eq_true rfl)⟩ ⟨(Nat.le_of_ble_eq_true rfl), (Nat.le_of_ble_eq_true rfl)⟩ (Nat.le_of_ble_eq_true rfl) (fun v1 hf => ?_)
  refine E_if_ne (pc := 4) O 9 dX2_takePart_4 (by decide) hf (fun hf => ?_) (fun hf => ?_)
  · refine E_aload_n (pc := 9) O 0 dX2_takePart_9 rfl rfl ?_
    refine E_iload_n (pc := 10) O 1 dX2_takePart_10 rfl rfl ?_
    refine E_put (pc := 11) O FN_RailSequence_TextReader_19 rfl rfl dX2_takePart_11 hf (fun h2 hf => ?_)
    refine E_iconst (pc := 14) O (1 : Int32) dX2_takePart_14 (by decide) ?_
    exact E_zret (pc := 15) O Z hf ⟨(Nat.le_of_ble_eq_true rfl), (Nat.le_of_ble_eq_true rfl)⟩ dX2_takePart_15
  · refine E_iconst (pc := 7) O (0 : Int32) dX2_takePart_7 (by decide) ?_
    exact E_zret (pc := 8) O Z hf ⟨(Nat.le_of_ble_eq_true rfl), (Nat.le_of_ble_eq_true rfl)⟩ dX2_takePart_8
set_option maxHeartbeats 4000000 in
set_option maxRecDepth 100000 in
theorem t_b_X2_isAtEndOfRail_21 {K : Cx} {fr : Bool} {out : Int32} {h : MH} (O : Ok K yX2_isAtEndOfRail.cls cX2_isAtEndOfRail 1 (rmm 1 20 0 0)) (Z : Out K (some .boolean) fr (some (.int out)) h) (s0 : Int32) (hf : b_X2_isAtEndOfRail_21 h s0 = some out) : EE K (fr, 0, 0) 21 [none] [.int s0] h := by
  unfold b_X2_isAtEndOfRail_21 at hf
  exact E_zretP (pc := 21) O Z hf ⟨(Nat.le_of_ble_eq_true rfl), (Nat.le_of_ble_eq_true rfl)⟩ dX2_isAtEndOfRail_21
set_option maxHeartbeats 4000000 in
set_option maxRecDepth 100000 in
theorem t_b_X2_isAtEndOfRail_42 {K : Cx} {fr : Bool} {out : Int32} {h : MH} (O : Ok K yX2_isAtEndOfRail.cls cX2_isAtEndOfRail 1 (rmm 1 20 0 0)) (Z : Out K (some .boolean) fr (some (.int out)) h) (s0 : Int32) (hf : b_X2_isAtEndOfRail_42 h s0 = some out) : EE K (fr, 0, 0) 42 [none] [.int s0] h := by
  unfold b_X2_isAtEndOfRail_42 at hf
  exact E_zretP (pc := 42) O Z hf ⟨(Nat.le_of_ble_eq_true rfl), (Nat.le_of_ble_eq_true rfl)⟩ dX2_isAtEndOfRail_42
set_option maxHeartbeats 4000000 in
set_option maxRecDepth 100000 in
theorem t_b_X2_isAtEndOfRail_41 {K : Cx} {fr : Bool} {out : Int32} {h : MH} (O : Ok K yX2_isAtEndOfRail.cls cX2_isAtEndOfRail 1 (rmm 1 20 0 0)) (Z : Out K (some .boolean) fr (some (.int out)) h)  (hf : b_X2_isAtEndOfRail_41 h  = some out) : EE K (fr, 0, 0) 41 [none] [] h := by
  unfold b_X2_isAtEndOfRail_41 at hf
  refine E_iconst (pc := 41) O (0 : Int32) dX2_isAtEndOfRail_41 (by decide) ?_
  exact t_b_X2_isAtEndOfRail_42 O Z (0 : Int32) hf
set_option maxHeartbeats 4000000 in
set_option maxRecDepth 100000 in
theorem t_X2_isAtEndOfRail {g : Gx} {fr : Bool} {h : MH} {x0} {out : Int32} (hf : f_X2_isAtEndOfRail h x0 = some out) : MM g yX2_isAtEndOfRail cX2_isAtEndOfRail 1 (some .boolean) 1 20 0 0 fr fr [.ref x0] h (some (.int out)) h := by
  unfold f_X2_isAtEndOfRail at hf
  refine MM_of (L := [some (.ref x0)]) (by decide) (Nat.le_of_ble_eq_true rfl) rfl (fun K hK O Z hn => ?_)
  refine E_aload_n (pc := 0) O 0 dX2_isAtEndOfRail_0 rfl rfl ?_
  refine E_getI (pc := 1) O FL_RailSequence_TextReader_19 dX2_isAtEndOfRail_1 hf (fun v1 hf => ?_)
  refine E_iconst (pc := 4) O (3 : Int32) dX2_isAtEndOfRail_4 (by decide) ?_
  refine E_icmp_ne (pc := 5) O 22 dX2_isAtEndOfRail_5 (by decide) hf (fun hf => ?_) (fun hf => ?_)
  · refine E_aload_n (pc := 22) O 0 dX2_isAtEndOfRail_22 rfl rfl ?_
    refine E_getI (pc := 23) O FL_RailSequence_TextReader_19 dX2_isAtEndOfRail_23 hf (fun v2 hf => ?_)
    refine E_iconst (pc := 26) O (2 : Int32) dX2_isAtEndOfRail_26 (by decide) ?_
    refine E_icmp_ne (pc := 27) O 41 dX2_isAtEndOfRail_27 (by decide) hf (fun hf => ?_) (fun hf => ?_)
    · exact E_sub (L' := [none]) True.intro (t_b_X2_isAtEndOfRail_41 O Z  hf)
    · refine E_aload_n (pc := 30) O 0 dX2_isAtEndOfRail_30 rfl rfl ?_
      refine E_callV_iP (pc := 31) (S := []) O [] CV_RailSequence_TextReader_42 rfl (fun r e => t_X2_isNumberComplete e) dX2_isAtEndOfRail_31 hf rfl ⟨(Nat.le_of_ble_eq_true rfl), (Nat.le_of_ble_eq_true rfl)⟩ ⟨(Nat.le_of_ble_eq_true rfl), (Nat.le_of_ble_eq_true rfl)⟩ (Nat.le_of_ble_eq_true rfl) (fun v3 hf => ?_)
      refine E_if_eq (pc := 34) O 41 dX2_isAtEndOfRail_34 (by decide) hf (fun hf => ?_) (fun hf => ?_)
      · exact E_sub (L' := [none]) True.intro (t_b_X2_isAtEndOfRail_41 O Z  hf)
      · refine E_iconst (pc := 37) O (1 : Int32) dX2_isAtEndOfRail_37 (by decide) ?_
        refine E_goto (pc := 38) O 42 dX2_isAtEndOfRail_38 (by decide) ?_
        exact E_sub (L' := [none]) True.intro (t_b_X2_isAtEndOfRail_42 O Z (1 : Int32) hf)
  · refine E_aload_n (pc := 8) O 0 dX2_isAtEndOfRail_8 rfl rfl ?_
    refine E_getI (pc := 9) O FL_RailSequence_TextReader_22 dX2_isAtEndOfRail_9 hf (fun v4 hf => ?_)
    refine E_iconst (pc := 12) O (-1 : Int32) dX2_isAtEndOfRail_12 (by decide) ?_
    refine E_icmp_eq (pc := 13) O 20 dX2_isAtEndOfRail_13 (by decide) hf (fun hf => ?_) (fun hf => ?_)
    · refine E_iconst (pc := 20) O (0 : Int32) dX2_isAtEndOfRail_20 (by decide) ?_
      exact E_sub (L' := [none]) True.intro (t_b_X2_isAtEndOfRail_21 O Z (0 : Int32) hf)
    · refine E_iconst (pc := 16) O (1 : Int32) dX2_isAtEndOfRail_16 (by decide) ?_
      refine E_goto (pc := 17) O 21 dX2_isAtEndOfRail_17 (by decide) ?_
      exact E_sub (L' := [none]) True.intro (t_b_X2_isAtEndOfRail_21 O Z (1 : Int32) hf)
set_option maxHeartbeats 4000000 in
set_option maxRecDepth 100000 in
theorem t_b_X2_take_39 {K : Cx} {fr : Bool} {out : (Int32 × MH)} (O : Ok K yX2_take.cls cX2_take 2 (rmm 2 41 0 0)) (Z : Out K (some .boolean) fr (some (.int out.1)) out.2) (h : MH) (s0 : Int32) (hf : b_X2_take_39 h s0 = some out) : EE K (fr, 0, 0) 39 [none, none] [.int s0] h := by
  unfold b_X2_take_39 at hf
  exact E_zret (pc := 39) O Z hf ⟨(Nat.le_of_ble_eq_true rfl), (Nat.le_of_ble_eq_true rfl)⟩ dX2_take_39
set_option maxHeartbeats 4000000 in
set_option maxRecDepth 100000 in
theorem t_b_X2_take_107 {K : Cx} {fr : Bool} {out : (Int32 × MH)} (O : Ok K yX2_take.cls cX2_take 2 (rmm 2 41 0 0)) (Z : Out K (some .boolean) fr (some (.int out.1)) out.2) (h : MH) (s0 : Int32) (hf : b_X2_take_107 h s0 = some out) : EE K (fr, 0, 0) 107 [none, none] [.int s0] h := by
  unfold b_X2_take_107 at hf
  exact E_zret (pc := 107) O Z hf ⟨(Nat.le_of_ble_eq_true rfl), (Nat.le_of_ble_eq_true rfl)⟩ dX2_take_107
set_option maxHeartbeats 4000000 in
set_option maxRecDepth 100000 in
theorem t_b_X2_take_106 {K : Cx} {fr : Bool} {out : (Int32 × MH)} (O : Ok K yX2_take.cls cX2_take 2 (rmm 2 41 0 0)) (Z : Out K (some .boolean) fr (some (.int out.1)) out.2) (h : MH) (hf : b_X2_take_106 h = some out) : EE K (fr, 0, 0) 106 [none, none] [] h := by
  unfold b_X2_take_106 at hf
  refine E_iconst (pc := 106) O (0 : Int32) dX2_take_106 (by decide) ?_
  exact t_b_X2_take_107 O Z h (0 : Int32) hf
set_option maxHeartbeats 4000000 in
set_option maxRecDepth 100000 in
theorem t_b_X2_take_79 {K : Cx} {fr : Bool} {out : (Int32 × MH)} (O : Ok K yX2_take.cls cX2_take 2 (rmm 2 41 0 0)) (Z : Out K (some .boolean) fr (some (.int out.1)) out.2) (h : MH) (s0 : Int32) (hf : b_X2_take_79 h s0 = some out) : EE K (fr, 0, 0) 79 [none, none] [.int s0] h := by
  unfold b_X2_take_79 at hf
  exact E_zret (pc := 79) O Z hf ⟨(Nat.le_of_ble_eq_true rfl), (Nat.le_of_ble_eq_true rfl)⟩ dX2_take_79
set_option maxHeartbeats 4000000 in
set_option maxRecDepth 100000 in
theorem t_b_X2_take_78 {K : Cx} {fr : Bool} {out : (Int32 × MH)} (O : Ok K yX2_take.cls cX2_take 2 (rmm 2 41 0 0)) (Z : Out K (some .boolean) fr (some (.int out.1)) out.2) (h : MH) (hf : b_X2_take_78 h = some out) : EE K (fr, 0, 0) 78 [none, none] [] h := by
  unfold b_X2_take_78 at hf
  refine E_iconst (pc := 78) O (0 : Int32) dX2_take_78 (by decide) ?_
  exact t_b_X2_take_79 O Z h (0 : Int32) hf
set_option maxHeartbeats 4000000 in
set_option maxRecDepth 100000 in
theorem t_b_X2_take_61 {K : Cx} {fr : Bool} {out : (Int32 × MH)} (O : Ok K yX2_take.cls cX2_take 2 (rmm 2 41 0 0)) (Z : Out K (some .boolean) fr (some (.int out.1)) out.2) (h : MH) (x0 : Nat) (hf : b_X2_take_61 h x0 = some out) : EE K (fr, 0, 0) 61 [some (.ref x0), none] [] h := by
  unfold b_X2_take_61 at hf
  refine E_aload_n (pc := 61) O 0 dX2_take_61 rfl rfl ?_
  refine E_aload_n (pc := 62) O 0 dX2_take_62 rfl rfl ?_
  refine E_getI (pc := 63) O FL_RailSequence_TextReader_19 dX2_take_63 hf (fun v1 hf => ?_)
  refine E_iconst (pc := 66) O (1 : Int32) dX2_take_66 (by decide) ?_
  refine E_iadd (pc := 67) O dX2_take_67 ?_
  refine E_callV_i (pc := 68) (S := []) O [.int (v1 + (1 : Int32))] CV_RailSequence_TextReader_32 rfl (fun r e => t_X2_takePart e) dX2_take_68 hf rfl ⟨(Nat.le_of_ble_eq_true rfl), (Nat.le_of_ble_eq_true rfl)⟩ ⟨(Nat.le_of_ble_eq_true rfl), (Nat.le_of_ble_eq_true rfl)⟩ (Nat.le_of_ble_eq_true rfl) (fun p2 hf => ?_)
  refine E_if_eq (pc := 71) O 78 dX2_take_71 (by decide) hf (fun hf => ?_) (fun hf => ?_)
  · exact E_sub (L' := [none, none]) True.intro (t_b_X2_take_78 O Z p2.2 hf)
  · refine E_iconst (pc := 74) O (1 : Int32) dX2_take_74 (by decide) ?_
    refine E_goto (pc := 75) O 79 dX2_take_75 (by decide) ?_
    exact E_sub (L' := [none, none]) True.intro (t_b_X2_take_79 O Z p2.2 (1 : Int32) hf)
set_option maxHeartbeats 4000000 in
set_option maxRecDepth 100000 in
theorem t_b_X2_take_127 {K : Cx} {fr : Bool} {out : (Int32 × MH)} (O : Ok K yX2_take.cls cX2_take 2 (rmm 2 41 0 0)) (Z : Out K (some .boolean) fr (some (.int out.1)) out.2) (h : MH) (hf : b_X2_take_127 h = some out) : EE K (fr, 0, 0) 127 [none, none] [] h := by
  unfold b_X2_take_127 at hf
  refine E_iconst (pc := 127) O (0 : Int32) dX2_take_127 (by decide) ?_
  exact E_zret (pc := 128) O Z hf ⟨(Nat.le_of_ble_eq_true rfl), (Nat.le_of_ble_eq_true rfl)⟩ dX2_take_128
set_option maxHeartbeats 4000000 in
set_option maxRecDepth 100000 in
theorem t_b_X2_take_40 {K : Cx} {fr : Bool} {out : (Int32 × MH)} (O : Ok K yX2_take.cls cX2_take 2 (rmm 2 41 0 0)) (Z : Out K (some .boolean) fr (some (.int out.1)) out.2) (h : MH) (x0 : Nat) (x1 : Int32) (hf : b_X2_take_40 h x0 x1 = some out) : EE K (fr, 0, 0) 40 [some (.ref x0), some (.int x1)] [] h := by
  unfold b_X2_take_40 at hf
  refine E_iload_n (pc := 40) O 1 dX2_take_40 rfl rfl ?_
  refine E_bipush (pc := 41) O (47 : Int32) dX2_take_41 (by decide) ?_
  refine E_icmp_ne (pc := 43) O 80 dX2_take_43 (by decide) hf (fun hf => ?_) (fun hf => ?_)
  · refine E_iload_n (pc := 80) O 1 dX2_take_80 rfl rfl ?_
    refine E_bipush (pc := 81) O (60 : Int32) dX2_take_81 (by decide) ?_
    refine E_icmp_ne (pc := 83) O 108 dX2_take_83 (by decide) hf (fun hf => ?_) (fun hf => ?_)
    · refine E_iload_n (pc := 108) O 1 dX2_take_108 rfl rfl ?_
      refine E_bipush (pc := 109) O (59 : Int32) dX2_take_109 (by decide) ?_
      refine E_icmp_ne (pc := 111) O 127 dX2_take_111 (by decide) hf (fun hf => ?_) (fun hf => ?_)
      · exact E_sub (L' := [none, none]) True.intro (t_b_X2_take_127 O Z h hf)
      · refine E_aload_n (pc := 114) O 0 dX2_take_114 rfl rfl ?_
        refine E_callV_iP (pc := 115) (S := []) O [] CV_RailSequence_TextReader_35 rfl (fun r e => t_X2_isAtEndOfRail e) dX2_take_115 hf rfl ⟨(Nat.le_of_ble_eq_true rfl), (Nat.le_of_ble_eq_true rfl)⟩ ⟨(Nat.le_of_ble_eq_true rfl), (Nat.le_of_ble_eq_true rfl)⟩ (Nat.le_of_ble_eq_true rfl) (fun v3 hf => ?_)
        refine E_if_eq (pc := 118) O 127 dX2_take_118 (by decide) hf (fun hf => ?_) (fun hf => ?_)
        · exact E_sub (L' := [none, none]) True.intro (t_b_X2_take_127 O Z h hf)
        · refine E_aload_n (pc := 121) O 0 dX2_take_121 rfl rfl ?_
          refine E_callV_v (pc := 122) (S := []) O [] CV_RailSequence_TextReader_39 rfl (fun r e => t_X2_begin e) dX2_take_122 hf rfl ⟨(Nat.le_of_ble_eq_true rfl), (Nat.le_of_ble_eq_true rfl)⟩ ⟨(Nat.le_of_ble_eq_true rfl), (Nat.le_of_ble_eq_true rfl)⟩ (Nat.le_of_ble_eq_true rfl) (fun h4 hf => ?_)
          refine E_iconst (pc := 125) O (1 : Int32) dX2_take_125 (by decide) ?_
          exact E_zret (pc := 126) O Z hf ⟨(Nat.le_of_ble_eq_true rfl), (Nat.le_of_ble_eq_true rfl)⟩ dX2_take_126
    · refine E_aload_n (pc := 86) O 0 dX2_take_86 rfl rfl ?_
      refine E_getI (pc := 87) O FL_RailSequence_TextReader_19 dX2_take_87 hf (fun v5 hf => ?_)
      refine E_iconst (pc := 90) O (2 : Int32) dX2_take_90 (by decide) ?_
      refine E_icmp_ne (pc := 91) O 106 dX2_take_91 (by decide) hf (fun hf => ?_) (fun hf => ?_)
      · exact E_sub (L' := [none, none]) True.intro (t_b_X2_take_106 O Z h hf)
      · refine E_aload_n (pc := 94) O 0 dX2_take_94 rfl rfl ?_
        refine E_iconst (pc := 95) O (3 : Int32) dX2_take_95 (by decide) ?_
        refine E_callV_i (pc := 96) (S := []) O [.int (3 : Int32)] CV_RailSequence_TextReader_32 rfl (fun r e => t_X2_takePart e) dX2_take_96 hf rfl ⟨(Nat.le_of_ble_eq_true rfl), (Nat.le_of_ble_eq_true rfl)⟩ ⟨(Nat.le_of_ble_eq_true rfl), (Nat.le_of_ble_eq_true rfl)⟩ (Nat.le_of_ble_eq_true rfl) (fun p6 hf => ?_)
        refine E_if_eq (pc := 99) O 106 dX2_take_99 (by decide) hf (fun hf => ?_) (fun hf => ?_)
        · exact E_sub (L' := [none, none]) True.intro (t_b_X2_take_106 O Z p6.2 hf)
        · refine E_iconst (pc := 102) O (1 : Int32) dX2_take_102 (by decide) ?_
          refine E_goto (pc := 103) O 107 dX2_take_103 (by decide) ?_
          exact E_sub (L' := [none, none]) True.intro (t_b_X2_take_107 O Z p6.2 (1 : Int32) hf)
  · refine E_aload_n (pc := 46) O 0 dX2_take_46 rfl rfl ?_
    refine E_getI (pc := 47) O FL_RailSequence_TextReader_19 dX2_take_47 hf (fun v7 hf => ?_)
    refine E_if_eq (pc := 50) O 61 dX2_take_50 (by decide) hf (fun hf => ?_) (fun hf => ?_)
    · exact E_sub (L' := [some (.ref x0), none]) (And.intro rfl True.intro) (t_b_X2_take_61 O Z h x0 hf)
    · refine E_aload_n (pc := 53) O 0 dX2_take_53 rfl rfl ?_
      refine E_getI (pc := 54) O FL_RailSequence_TextReader_19 dX2_take_54 hf (fun v8 hf => ?_)
      refine E_iconst (pc := 57) O (1 : Int32) dX2_take_57 (by decide) ?_
      refine E_icmp_ne (pc := 58) O 78 dX2_take_58 (by decide) hf (fun hf => ?_) (fun hf => ?_)
      · exact E_sub (L' := [none, none]) True.intro (t_b_X2_take_78 O Z h hf)
      · exact E_sub (L' := [some (.ref x0), none]) (And.intro rfl True.intro) (t_b_X2_take_61 O Z h x0 hf)
set_option maxHeartbeats 4000000 in
set_option maxRecDepth 100000 in
theorem t_X2_take {g : Gx} {fr : Bool} {h : MH} {x0 x1} {out : (Int32 × MH)} (hf : f_X2_take h x0 x1 = some out) : MM g yX2_take cX2_take 2 (some .boolean) 2 41 0 0 fr fr [.ref x0, .int x1] h (some (.int out.1)) out.2 := by
  unfold f_X2_take at hf
  refine MM_of (L := [some (.ref x0), some (.int x1)]) (by decide) (Nat.le_of_ble_eq_true rfl) rfl (fun K hK O Z hn => ?_)
  refine E_iload_n (pc := 0) O 1 dX2_take_0 rfl rfl ?_
  refine E_bipush (pc := 1) O (48 : Int32) dX2_take_1 (by decide) ?_
  refine E_icmp_lt (pc := 3) O 40 dX2_take_3 (by decide) hf (fun hf => ?_) (fun hf => ?_)
  · exact t_b_X2_take_40 O Z h x0 x1 hf
  · refine E_iload_n (pc := 6) O 1 dX2_take_6 rfl rfl ?_
    refine E_bipush (pc := 7) O (57 : Int32) dX2_take_7 (by decide) ?_
    refine E_icmp_gt (pc := 9) O 40 dX2_take_9 (by decide) hf (fun hf => ?_) (fun hf => ?_)
    · exact t_b_X2_take_40 O Z h x0 x1 hf
    · refine E_aload_n (pc := 12) O 0 dX2_take_12 rfl rfl ?_
      refine E_getI (pc := 13) O FL_RailSequence_TextReader_19 dX2_take_13 hf (fun v9 hf => ?_)
      refine E_iconst (pc := 16) O (3 : Int32) dX2_take_16 (by decide) ?_
      refine E_icmp_ne (pc := 17) O 31 dX2_take_17 (by decide) hf (fun hf => ?_) (fun hf => ?_)
      · refine E_aload_n (pc := 31) O 0 dX2_take_31 rfl rfl ?_
        refine E_iload_n (pc := 32) O 1 dX2_take_32 rfl rfl ?_
        refine E_bipush (pc := 33) O (48 : Int32) dX2_take_33 (by decide) ?_
        refine E_isub (pc := 35) O dX2_take_35 ?_
        refine E_callV_i (pc := 36) (S := []) O [.int (x1 - (48 : Int32))] CV_RailSequence_TextReader_29 rfl (fun r e => t_X2_takeDigit e) dX2_take_36 hf rfl ⟨(Nat.le_of_ble_eq_true rfl), (Nat.le_of_ble_eq_true rfl)⟩ ⟨(Nat.le_of_ble_eq_true rfl), (Nat.le_of_ble_eq_true rfl)⟩ (Nat.le_of_ble_eq_true rfl) (fun p10 hf => ?_)
        exact E_sub (L' := [none, none]) True.intro (t_b_X2_take_39 O Z p10.2 p10.1 hf)
      · refine E_aload_n (pc := 20) O 0 dX2_take_20 rfl rfl ?_
        refine E_iload_n (pc := 21) O 1 dX2_take_21 rfl rfl ?_
        refine E_bipush (pc := 22) O (48 : Int32) dX2_take_22 (by decide) ?_
        refine E_isub (pc := 24) O dX2_take_24 ?_
        refine E_callV_i (pc := 25) (S := []) O [.int (x1 - (48 : Int32))] CV_RailSequence_TextReader_25 rfl (fun r e => t_X2_takeNeed e) dX2_take_25 hf rfl ⟨(Nat.le_of_ble_eq_true rfl), (Nat.le_of_ble_eq_true rfl)⟩ ⟨(Nat.le_of_ble_eq_true rfl), (Nat.le_of_ble_eq_true rfl)⟩ (Nat.le_of_ble_eq_true rfl) (fun p11 hf => ?_)
        refine E_goto (pc := 28) O 39 dX2_take_28 (by decide) ?_
        exact E_sub (L' := [none, none]) True.intro (t_b_X2_take_39 O Z p11.2 p11.1 hf)
