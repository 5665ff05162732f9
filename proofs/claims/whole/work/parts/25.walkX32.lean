/-! walks: the machine does what the plain functions say: written by program -/
set_option maxHeartbeats 4000000 in
set_option maxRecDepth 100000 in
theorem t_b_X3_digest_33 {K : Cx} {fr : Bool} {out : (Int64 × MH)} (O : Ok K yX3_digest.cls cX3_digest 4 (rmm 6 151 0 0)) (Z : Out K (some .long) fr (some (.long out.1)) out.2) (rec33 : MH → Nat → Int64 → Int32 → Option (Int64 × MH)) (hr33 : ∀ (h : MH) (x0 : Nat) (x1 : Int64) (x3 : Int32), rec33 h x0 x1 x3 = some out → EE K (fr, 0, 0) 33 [some (.ref x0), some (.long x1), none, some (.int x3)] [] h) (h : MH) (x0 : Nat) (x1 : Int64) (x3 : Int32) (hf : b_X3_digest_33 rec33 h x0 x1 x3 = some out) : EE K (fr, 0, 0) 33 [some (.ref x0), some (.long x1), none, some (.int x3)] [] h := by
  unfold b_X3_digest_33 at hf
  refine E_iload_n (pc := 33) O 3 dX3_digest_33 rfl rfl ?_
  refine E_aload_n (pc := 34) O 0 dX3_digest_34 rfl rfl ?_
  refine E_getR (pc := 35) O FL_RailSequence_10 dX3_digest_35 hf (fun v1 hf => ?_)
  refine E_getI (pc := 38) O FL_RailSequence_51 dX3_digest_38 hf (fun v2 hf => ?_)
  refine E_icmp_ge (pc := 41) O 57 dX3_digest_41 (by decide) hf (fun hf => ?_) (fun hf => ?_)
  · refine E_aload_n (pc := 57) O 0 dX3_digest_57 rfl rfl ?_
    refine E_lload_n (pc := 58) O 1 dX3_digest_58 rfl rfl ?_
    refine E_callV_lP (pc := 59) (S := []) O [.long x1] CV_RailSequence_233 rfl (fun r e => t_X3_hashOfLog e) dX3_digest_59 hf rfl ⟨(Nat.le_of_ble_eq_true rfl), (Nat.le_of_ble_eq_true rfl)⟩ ⟨(Nat.le_of_ble_eq_true rfl), (Nat.le_of_ble_eq_true rfl)⟩ (Nat.le_of_ble_eq_true rfl) (fun v3 hf => ?_)
    refine E_lstore_n (pc := 62) O 1 [some (.ref x0), some (.long v3), none, some (.int x3)] dX3_digest_62 rfl (by decide) rfl rfl ?_
    refine E_ldc2l (pc := 63) O (31 : Int64) (aw2 87 (by decide +kernel) rfl) dX3_digest_63 ?_
    refine E_lload_n (pc := 66) O 1 dX3_digest_66 rfl rfl ?_
    refine E_lmul (pc := 67) O dX3_digest_67 ?_
    refine E_aload_n (pc := 68) O 0 dX3_digest_68 rfl rfl ?_
    refine E_callV_i (pc := 69) (S := [.long ((31 : Int64) * v3)]) O [] CV_RailSequence_237 rfl (fun r e => t_X3_allGoodIn e) dX3_digest_69 hf rfl ⟨(Nat.le_of_ble_eq_true rfl), (Nat.le_of_ble_eq_true rfl)⟩ ⟨(Nat.le_of_ble_eq_true rfl), (Nat.le_of_ble_eq_true rfl)⟩ (Nat.le_of_ble_eq_true rfl) (fun p4 hf => ?_)
    refine E_i2l (pc := 72) O dX3_digest_72 ?_
    refine E_ladd (pc := 73) O dX3_digest_73 ?_
    obtain ⟨v5, ev5, hf⟩ := ob hf
    have ev5 := os ev5
    rw [ev5]
    refine E_lstore_n (pc := 74) O 1 [some (.ref x0), some (.long v5), none, some (.int x3)] dX3_digest_74 rfl (by decide) rfl rfl ?_
    refine E_ldc2l (pc := 75) O (31 : Int64) (aw2 87 (by decide +kernel) rfl) dX3_digest_75 ?_
    refine E_lload_n (pc := 78) O 1 dX3_digest_78 rfl rfl ?_
    refine E_lmul (pc := 79) O dX3_digest_79 ?_
    refine E_aload_n (pc := 80) O 0 dX3_digest_80 rfl rfl ?_
    refine E_callV_i (pc := 81) (S := [.long ((31 : Int64) * v5)]) O [] CV_RailSequence_240 rfl (fun r e => t_X3_allOffIn e) dX3_digest_81 hf rfl ⟨(Nat.le_of_ble_eq_true rfl), (Nat.le_of_ble_eq_true rfl)⟩ ⟨(Nat.le_of_ble_eq_true rfl), (Nat.le_of_ble_eq_true rfl)⟩ (Nat.le_of_ble_eq_true rfl) (fun p6 hf => ?_)
    refine E_i2l (pc := 84) O dX3_digest_84 ?_
    refine E_ladd (pc := 85) O dX3_digest_85 ?_
    obtain ⟨v7, ev7, hf⟩ := ob hf
    have ev7 := os ev7
    rw [ev7]
    refine E_lstore_n (pc := 86) O 1 [some (.ref x0), some (.long v7), none, some (.int x3)] dX3_digest_86 rfl (by decide) rfl rfl ?_
    refine E_ldc2l (pc := 87) O (31 : Int64) (aw2 87 (by decide +kernel) rfl) dX3_digest_87 ?_
    refine E_lload_n (pc := 90) O 1 dX3_digest_90 rfl rfl ?_
    refine E_lmul (pc := 91) O dX3_digest_91 ?_
    refine E_aload_n (pc := 92) O 0 dX3_digest_92 rfl rfl ?_
    refine E_callV_dP (pc := 93) (S := [.long ((31 : Int64) * v7)]) O [] CV_RailSequence_243 rfl (fun r e => t_X3_goodShare e) dX3_digest_93 hf rfl ⟨(Nat.le_of_ble_eq_true rfl), (Nat.le_of_ble_eq_true rfl)⟩ ⟨(Nat.le_of_ble_eq_true rfl), (Nat.le_of_ble_eq_true rfl)⟩ (Nat.le_of_ble_eq_true rfl) (fun v8 hf => ?_)
    refine E_callS_lP (pc := 96) (S := [.long ((31 : Int64) * v7)]) O [.double v8] CS_RailSequence_247 (fun r e => t_X3_bitsOfShare e) dX3_digest_96 hf rfl ⟨(Nat.le_of_ble_eq_true rfl), (Nat.le_of_ble_eq_true rfl)⟩ ⟨(Nat.le_of_ble_eq_true rfl), (Nat.le_of_ble_eq_true rfl)⟩ (Nat.le_of_ble_eq_true rfl) (fun v9 hf => ?_)
    refine E_ladd (pc := 99) O dX3_digest_99 ?_
    obtain ⟨v10, ev10, hf⟩ := ob hf
    have ev10 := os ev10
    rw [ev10]
    refine E_lstore_n (pc := 100) O 1 [some (.ref x0), some (.long v10), none, some (.int x3)] dX3_digest_100 rfl (by decide) rfl rfl ?_
    refine E_aload_n (pc := 101) O 0 dX3_digest_101 rfl rfl ?_
    refine E_lload_n (pc := 102) O 1 dX3_digest_102 rfl rfl ?_
    refine E_callV_lP (pc := 103) (S := []) O [.long v10] CV_RailSequence_251 rfl (fun r e => t_X3_hashOfBuffer e) dX3_digest_103 hf rfl ⟨(Nat.le_of_ble_eq_true rfl), (Nat.le_of_ble_eq_true rfl)⟩ ⟨(Nat.le_of_ble_eq_true rfl), (Nat.le_of_ble_eq_true rfl)⟩ (Nat.le_of_ble_eq_true rfl) (fun v11 hf => ?_)
    exact E_lret (pc := 106) O Z hf ⟨(Nat.le_of_ble_eq_true rfl), (Nat.le_of_ble_eq_true rfl)⟩ dX3_digest_106
  · refine E_aload_n (pc := 44) O 0 dX3_digest_44 rfl rfl ?_
    refine E_lload_n (pc := 45) O 1 dX3_digest_45 rfl rfl ?_
    refine E_iload_n (pc := 46) O 3 dX3_digest_46 rfl rfl ?_
    refine E_callV_lP (pc := 47) (S := []) O [.long x1, .int x3] CV_RailSequence_229 rfl (fun r e => t_X3_hashOfRail e) dX3_digest_47 hf rfl ⟨(Nat.le_of_ble_eq_true rfl), (Nat.le_of_ble_eq_true rfl)⟩ ⟨(Nat.le_of_ble_eq_true rfl), (Nat.le_of_ble_eq_true rfl)⟩ (Nat.le_of_ble_eq_true rfl) (fun v12 hf => ?_)
    refine E_lstore_n (pc := 50) O 1 [some (.ref x0), some (.long v12), none, some (.int x3)] dX3_digest_50 rfl (by decide) rfl rfl ?_
    refine E_iinc (pc := 51) O (1 : Int32) [some (.ref x0), some (.long v12), none, some (.int (x3 + (1 : Int32)))] dX3_digest_51 rfl (by decide) rfl (by decide) rfl ?_
    refine E_goto (pc := 54) O 33 dX3_digest_54 (by decide) ?_
    exact hr33 h x0 v12 (x3 + (1 : Int32)) hf
theorem t_f_X3_digest_33 {K : Cx} {fr : Bool} {out : (Int64 × MH)} (O : Ok K yX3_digest.cls cX3_digest 4 (rmm 6 151 0 0)) (Z : Out K (some .long) fr (some (.long out.1)) out.2) : ∀ (n : Nat) (h : MH) (x0 : Nat) (x1 : Int64) (x3 : Int32), f_X3_digest_33 n h x0 x1 x3 = some out → EE K (fr, 0, 0) 33 [some (.ref x0), some (.long x1), none, some (.int x3)] [] h := by
  intro n
  induction n with
  | zero => intro h x0 x1 x3 hf; cases hf
  | succ n ih => intro h x0 x1 x3 hf; exact t_b_X3_digest_33 O Z _ ih h x0 x1 x3 hf
set_option maxHeartbeats 4000000 in
set_option maxRecDepth 100000 in
theorem t_b_X3_digest_6 {K : Cx} {fr : Bool} {out : (Int64 × MH)} (O : Ok K yX3_digest.cls cX3_digest 4 (rmm 6 151 0 0)) (Z : Out K (some .long) fr (some (.long out.1)) out.2) (rec6 : MH → Nat → Int64 → Int32 → Option (Int64 × MH)) (hr6 : ∀ (h : MH) (x0 : Nat) (x1 : Int64) (x3 : Int32), rec6 h x0 x1 x3 = some out → EE K (fr, 0, 0) 6 [some (.ref x0), some (.long x1), none, some (.int x3)] [] h) (h : MH) (x0 : Nat) (x1 : Int64) (x3 : Int32) (hf : b_X3_digest_6 rec6 h x0 x1 x3 = some out) : EE K (fr, 0, 0) 6 [some (.ref x0), some (.long x1), none, some (.int x3)] [] h := by
  unfold b_X3_digest_6 at hf
  refine E_iload_n (pc := 6) O 3 dX3_digest_6 rfl rfl ?_
  refine E_bipush (pc := 7) O (10 : Int32) dX3_digest_7 (by decide) ?_
  refine E_icmp_ge (pc := 9) O 31 dX3_digest_9 (by decide) hf (fun hf => ?_) (fun hf => ?_)
  · refine E_iconst (pc := 31) O (0 : Int32) dX3_digest_31 (by decide) ?_
    refine E_istore_n (pc := 32) O 3 [some (.ref x0), some (.long x1), none, some (.int (0 : Int32))] dX3_digest_32 rfl (by decide) rfl rfl ?_
    exact t_f_X3_digest_33 O Z FU h x0 x1 (0 : Int32) hf
  · refine E_ldc2l (pc := 12) O (31 : Int64) (aw2 87 (by decide +kernel) rfl) dX3_digest_12 ?_
    refine E_lload_n (pc := 15) O 1 dX3_digest_15 rfl rfl ?_
    refine E_lmul (pc := 16) O dX3_digest_16 ?_
    refine E_aload_n (pc := 17) O 0 dX3_digest_17 rfl rfl ?_
    refine E_iload_n (pc := 18) O 3 dX3_digest_18 rfl rfl ?_
    refine E_callV_i (pc := 19) (S := [.long ((31 : Int64) * x1)]) O [.int x3] CV_RailSequence_202 rfl (fun r e => t_X3_countOf e) dX3_digest_19 hf rfl ⟨(Nat.le_of_ble_eq_true rfl), (Nat.le_of_ble_eq_true rfl)⟩ ⟨(Nat.le_of_ble_eq_true rfl), (Nat.le_of_ble_eq_true rfl)⟩ (Nat.le_of_ble_eq_true rfl) (fun p13 hf => ?_)
    refine E_i2l (pc := 22) O dX3_digest_22 ?_
    refine E_ladd (pc := 23) O dX3_digest_23 ?_
    obtain ⟨v14, ev14, hf⟩ := ob hf
    have ev14 := os ev14
    rw [ev14]
    refine E_lstore_n (pc := 24) O 1 [some (.ref x0), some (.long v14), none, some (.int x3)] dX3_digest_24 rfl (by decide) rfl rfl ?_
    refine E_iinc (pc := 25) O (1 : Int32) [some (.ref x0), some (.long v14), none, some (.int (x3 + (1 : Int32)))] dX3_digest_25 rfl (by decide) rfl (by decide) rfl ?_
    refine E_goto (pc := 28) O 6 dX3_digest_28 (by decide) ?_
    exact hr6 p13.2 x0 v14 (x3 + (1 : Int32)) hf
theorem t_f_X3_digest_6 {K : Cx} {fr : Bool} {out : (Int64 × MH)} (O : Ok K yX3_digest.cls cX3_digest 4 (rmm 6 151 0 0)) (Z : Out K (some .long) fr (some (.long out.1)) out.2) : ∀ (n : Nat) (h : MH) (x0 : Nat) (x1 : Int64) (x3 : Int32), f_X3_digest_6 n h x0 x1 x3 = some out → EE K (fr, 0, 0) 6 [some (.ref x0), some (.long x1), none, some (.int x3)] [] h := by
  intro n
  induction n with
  | zero => intro h x0 x1 x3 hf; cases hf
  | succ n ih => intro h x0 x1 x3 hf; exact t_b_X3_digest_6 O Z _ ih h x0 x1 x3 hf
set_option maxHeartbeats 4000000 in
set_option maxRecDepth 100000 in
theorem t_X3_digest {g : Gx} {fr : Bool} {h : MH} {x0} {out : (Int64 × MH)} (hf : f_X3_digest h x0 = some out) : MM g yX3_digest cX3_digest 4 (some .long) 6 151 0 0 fr fr [.ref x0] h (some (.long out.1)) out.2 := by
  unfold f_X3_digest at hf
  refine MM_of (L := [some (.ref x0), none, none, none]) (by decide) (Nat.le_of_ble_eq_true rfl) rfl (fun K hK O Z hn => ?_)
  refine E_ldc2l (pc := 0) O (2179 : Int64) (aw2 86 (by decide +kernel) rfl) dX3_digest_0 ?_
  refine E_lstore_n (pc := 3) O 1 [some (.ref x0), some (.long (2179 : Int64)), none, none] dX3_digest_3 rfl (by decide) rfl rfl ?_
  refine E_iconst (pc := 4) O (0 : Int32) dX3_digest_4 (by decide) ?_
  refine E_istore_n (pc := 5) O 3 [some (.ref x0), some (.long (2179 : Int64)), none, some (.int (0 : Int32))] dX3_digest_5 rfl (by decide) rfl rfl ?_
  exact t_f_X3_digest_6 O Z FU h x0 (2179 : Int64) (0 : Int32) hf
