/-! walks: the machine does what the plain functions say: written by program -/
set_option maxHeartbeats 4000000 in
set_option maxRecDepth 100000 in
theorem t_X4_goodShare {g : Gx} {fr : Bool} {h : MH} {x0} {out : (UInt64 × MH)} (hf : f_X4_goodShare h x0 = some out) : MM g yX4_goodShare cX4_goodShare 1 (some .double) 2 44 0 0 fr fr [.ref x0] h (some (.double out.1)) out.2 := by
  unfold f_X4_goodShare at hf
  refine MM_of (L := [some (.ref x0)]) (by decide) (Nat.le_of_ble_eq_true rfl) rfl (fun K hK O Z hn => ?_)
  refine E_aload_n (pc := 0) O 0 dX4_goodShare_0 rfl rfl ?_
  refine E_iconst (pc := 1) O (0 : Int32) dX4_goodShare_1 (by decide) ?_
  refine E_put (pc := 2) O FN_RailSequenceModel_28 rfl rfl dX4_goodShare_2 hf (fun h1 hf => ?_)
  refine E_aload_n (pc := 5) O 0 dX4_goodShare_5 rfl rfl ?_
  refine E_callV_dP (pc := 6) (S := []) O [] CV_RailSequenceModel_219 rfl (fun r e => t_X4_shareNow e) dX4_goodShare_6 hf rfl ⟨(Nat.le_of_ble_eq_true rfl), (Nat.le_of_ble_eq_true rfl)⟩ ⟨(Nat.le_of_ble_eq_true rfl), (Nat.le_of_ble_eq_true rfl)⟩ (Nat.le_of_ble_eq_true rfl) (fun v2 hf => ?_)
  exact E_dret (pc := 9) O Z hf ⟨(Nat.le_of_ble_eq_true rfl), (Nat.le_of_ble_eq_true rfl)⟩ dX4_goodShare_9
set_option maxHeartbeats 4000000 in
set_option maxRecDepth 100000 in
theorem t_X4_mix {g : Gx} {fr : Bool} {h : MH} {x0 x1} {out : MH} (hf : f_X4_mix h x0 x1 = some out) : MM g yX4_mix cX4_mix 3 none 0 0 0 0 fr fr [.ref x0, .long x1] h none out := by
  unfold f_X4_mix at hf
  refine MM_of (L := [some (.ref x0), some (.long x1), none]) (by decide) (Nat.le_of_ble_eq_true rfl) rfl (fun K hK O Z hn => ?_)
  refine E_aload_n (pc := 0) O 0 dX4_mix_0 rfl rfl ?_
  refine E_ldc2l (pc := 1) O (31 : Int64) (aw5 112 (by decide +kernel) rfl) dX4_mix_1 ?_
  refine E_aload_n (pc := 4) O 0 dX4_mix_4 rfl rfl ?_
  refine E_getL (pc := 5) O FL_RailSequenceModel_225 dX4_mix_5 hf (fun v1 hf => ?_)
  refine E_lmul (pc := 8) O dX4_mix_8 ?_
  refine E_lload_n (pc := 9) O 1 dX4_mix_9 rfl rfl ?_
  refine E_ladd (pc := 10) O dX4_mix_10 ?_
  refine E_put (pc := 11) O FN_RailSequenceModel_225 rfl rfl dX4_mix_11 hf (fun h2 hf => ?_)
  exact E_vret (pc := 14) O Z hf ⟨(Nat.le_of_ble_eq_true rfl), (Nat.le_of_ble_eq_true rfl)⟩ dX4_mix_14
set_option maxHeartbeats 4000000 in
set_option maxRecDepth 100000 in
theorem t_b_X4_mixRail_27 {K : Cx} {fr : Bool} {out : MH} (O : Ok K yX4_mixRail.cls cX4_mixRail 3 (rmm 3 67 0 0)) (Z : Out K none fr none out) (rec27 : MH → Nat → Int32 → Int32 → Option MH) (hr27 : ∀ (h : MH) (x0 : Nat) (x1 : Int32) (x2 : Int32), rec27 h x0 x1 x2 = some out → EE K (fr, 0, 0) 27 [some (.ref x0), some (.int x1), some (.int x2)] [] h) (h : MH) (x0 : Nat) (x1 : Int32) (x2 : Int32) (hf : b_X4_mixRail_27 rec27 h x0 x1 x2 = some out) : EE K (fr, 0, 0) 27 [some (.ref x0), some (.int x1), some (.int x2)] [] h := by
  unfold b_X4_mixRail_27 at hf
  refine E_iload_n (pc := 27) O 2 dX4_mixRail_27 rfl rfl ?_
  refine E_iconst (pc := 28) O (4 : Int32) dX4_mixRail_28 (by decide) ?_
  refine E_icmp_ge (pc := 29) O 52 dX4_mixRail_29 (by decide) hf (fun hf => ?_) (fun hf => ?_)
  · refine E_aload_n (pc := 52) O 0 dX4_mixRail_52 rfl rfl ?_
    refine E_aload_n (pc := 53) O 0 dX4_mixRail_53 rfl rfl ?_
    refine E_iload_n (pc := 54) O 1 dX4_mixRail_54 rfl rfl ?_
    refine E_callV_iP (pc := 55) (S := [.ref x0]) O [.int x1] CV_RailSequenceModel_216 rfl (fun r e => t_X4_patienceFor e) dX4_mixRail_55 hf rfl ⟨(Nat.le_of_ble_eq_true rfl), (Nat.le_of_ble_eq_true rfl)⟩ ⟨(Nat.le_of_ble_eq_true rfl), (Nat.le_of_ble_eq_true rfl)⟩ (Nat.le_of_ble_eq_true rfl) (fun v1 hf => ?_)
    refine E_i2l (pc := 58) O dX4_mixRail_58 ?_
    refine E_callV_v (pc := 59) (S := []) O [.long (Int32.toInt64 v1)] CV_RailSequenceModel_229 rfl (fun r e => t_X4_mix e) dX4_mixRail_59 hf rfl ⟨(Nat.le_of_ble_eq_true rfl), (Nat.le_of_ble_eq_true rfl)⟩ ⟨(Nat.le_of_ble_eq_true rfl), (Nat.le_of_ble_eq_true rfl)⟩ (Nat.le_of_ble_eq_true rfl) (fun h2 hf => ?_)
    exact E_vret (pc := 62) O Z hf ⟨(Nat.le_of_ble_eq_true rfl), (Nat.le_of_ble_eq_true rfl)⟩ dX4_mixRail_62
  · refine E_aload_n (pc := 32) O 0 dX4_mixRail_32 rfl rfl ?_
    refine E_aload_n (pc := 33) O 0 dX4_mixRail_33 rfl rfl ?_
    refine E_iload_n (pc := 34) O 1 dX4_mixRail_34 rfl rfl ?_
    refine E_bipush (pc := 35) O (16 : Int32) dX4_mixRail_35 (by decide) ?_
    refine E_iload_n (pc := 37) O 2 dX4_mixRail_37 rfl rfl ?_
    refine E_iadd (pc := 38) O dX4_mixRail_38 ?_
    refine E_callV_iP (pc := 39) (S := [.ref x0]) O [.int x1, .int ((16 : Int32) + x2)] CV_RailSequenceModel_36 rfl (fun r e => t_X4_of e) dX4_mixRail_39 hf rfl ⟨(Nat.le_of_ble_eq_true rfl), (Nat.le_of_ble_eq_true rfl)⟩ ⟨(Nat.le_of_ble_eq_true rfl), (Nat.le_of_ble_eq_true rfl)⟩ (Nat.le_of_ble_eq_true rfl) (fun v3 hf => ?_)
    refine E_i2l (pc := 42) O dX4_mixRail_42 ?_
    refine E_callV_v (pc := 43) (S := []) O [.long (Int32.toInt64 v3)] CV_RailSequenceModel_229 rfl (fun r e => t_X4_mix e) dX4_mixRail_43 hf rfl ⟨(Nat.le_of_ble_eq_true rfl), (Nat.le_of_ble_eq_true rfl)⟩ ⟨(Nat.le_of_ble_eq_true rfl), (Nat.le_of_ble_eq_true rfl)⟩ (Nat.le_of_ble_eq_true rfl) (fun h4 hf => ?_)
    refine E_iinc (pc := 46) O (1 : Int32) [some (.ref x0), some (.int x1), some (.int (x2 + (1 : Int32)))] dX4_mixRail_46 rfl (by decide) rfl (by decide) rfl ?_
    refine E_goto (pc := 49) O 27 dX4_mixRail_49 (by decide) ?_
    exact hr27 h4 x0 x1 (x2 + (1 : Int32)) hf
theorem t_f_X4_mixRail_27 {K : Cx} {fr : Bool} {out : MH} (O : Ok K yX4_mixRail.cls cX4_mixRail 3 (rmm 3 67 0 0)) (Z : Out K none fr none out) : ∀ (n : Nat) (h : MH) (x0 : Nat) (x1 : Int32) (x2 : Int32), f_X4_mixRail_27 n h x0 x1 x2 = some out → EE K (fr, 0, 0) 27 [some (.ref x0), some (.int x1), some (.int x2)] [] h := by
  intro n
  induction n with
  | zero => intro h x0 x1 x2 hf; cases hf
  | succ n ih => intro h x0 x1 x2 hf; exact t_b_X4_mixRail_27 O Z _ ih h x0 x1 x2 hf
set_option maxHeartbeats 4000000 in
set_option maxRecDepth 100000 in
theorem t_b_X4_mixRail_2 {K : Cx} {fr : Bool} {out : MH} (O : Ok K yX4_mixRail.cls cX4_mixRail 3 (rmm 3 67 0 0)) (Z : Out K none fr none out) (rec2 : MH → Nat → Int32 → Int32 → Option MH) (hr2 : ∀ (h : MH) (x0 : Nat) (x1 : Int32) (x2 : Int32), rec2 h x0 x1 x2 = some out → EE K (fr, 0, 0) 2 [some (.ref x0), some (.int x1), some (.int x2)] [] h) (h : MH) (x0 : Nat) (x1 : Int32) (x2 : Int32) (hf : b_X4_mixRail_2 rec2 h x0 x1 x2 = some out) : EE K (fr, 0, 0) 2 [some (.ref x0), some (.int x1), some (.int x2)] [] h := by
  unfold b_X4_mixRail_2 at hf
  refine E_iload_n (pc := 2) O 2 dX4_mixRail_2 rfl rfl ?_
  refine E_bipush (pc := 3) O (19 : Int32) dX4_mixRail_3 (by decide) ?_
  refine E_icmp_ge (pc := 5) O 25 dX4_mixRail_5 (by decide) hf (fun hf => ?_) (fun hf => ?_)
  · refine E_iconst (pc := 25) O (0 : Int32) dX4_mixRail_25 (by decide) ?_
    refine E_istore_n (pc := 26) O 2 [some (.ref x0), some (.int x1), some (.int (0 : Int32))] dX4_mixRail_26 rfl (by decide) rfl rfl ?_
    exact t_f_X4_mixRail_27 O Z FU h x0 x1 (0 : Int32) hf
  · refine E_aload_n (pc := 8) O 0 dX4_mixRail_8 rfl rfl ?_
    refine E_aload_n (pc := 9) O 0 dX4_mixRail_9 rfl rfl ?_
    refine E_iload_n (pc := 10) O 1 dX4_mixRail_10 rfl rfl ?_
    refine E_iload_n (pc := 11) O 2 dX4_mixRail_11 rfl rfl ?_
    refine E_callV_iP (pc := 12) (S := [.ref x0]) O [.int x1, .int x2] CV_RailSequenceModel_179 rfl (fun r e => t_X4_railNow e) dX4_mixRail_12 hf rfl ⟨(Nat.le_of_ble_eq_true rfl), (Nat.le_of_ble_eq_true rfl)⟩ ⟨(Nat.le_of_ble_eq_true rfl), (Nat.le_of_ble_eq_true rfl)⟩ (Nat.le_of_ble_eq_true rfl) (fun v5 hf => ?_)
    refine E_i2l (pc := 15) O dX4_mixRail_15 ?_
    refine E_callV_v (pc := 16) (S := []) O [.long (Int32.toInt64 v5)] CV_RailSequenceModel_229 rfl (fun r e => t_X4_mix e) dX4_mixRail_16 hf rfl ⟨(Nat.le_of_ble_eq_true rfl), (Nat.le_of_ble_eq_true rfl)⟩ ⟨(Nat.le_of_ble_eq_true rfl), (Nat.le_of_ble_eq_true rfl)⟩ (Nat.le_of_ble_eq_true rfl) (fun h6 hf => ?_)
    refine E_iinc (pc := 19) O (1 : Int32) [some (.ref x0), some (.int x1), some (.int (x2 + (1 : Int32)))] dX4_mixRail_19 rfl (by decide) rfl (by decide) rfl ?_
    refine E_goto (pc := 22) O 2 dX4_mixRail_22 (by decide) ?_
    exact hr2 h6 x0 x1 (x2 + (1 : Int32)) hf
theorem t_f_X4_mixRail_2 {K : Cx} {fr : Bool} {out : MH} (O : Ok K yX4_mixRail.cls cX4_mixRail 3 (rmm 3 67 0 0)) (Z : Out K none fr none out) : ∀ (n : Nat) (h : MH) (x0 : Nat) (x1 : Int32) (x2 : Int32), f_X4_mixRail_2 n h x0 x1 x2 = some out → EE K (fr, 0, 0) 2 [some (.ref x0), some (.int x1), some (.int x2)] [] h := by
  intro n
  induction n with
  | zero => intro h x0 x1 x2 hf; cases hf
  | succ n ih => intro h x0 x1 x2 hf; exact t_b_X4_mixRail_2 O Z _ ih h x0 x1 x2 hf
set_option maxHeartbeats 4000000 in
set_option maxRecDepth 100000 in
theorem t_X4_mixRail {g : Gx} {fr : Bool} {h : MH} {x0 x1} {out : MH} (hf : f_X4_mixRail h x0 x1 = some out) : MM g yX4_mixRail cX4_mixRail 3 none 3 67 0 0 fr fr [.ref x0, .int x1] h none out := by
  unfold f_X4_mixRail at hf
  refine MM_of (L := [some (.ref x0), some (.int x1), none]) (by decide) (Nat.le_of_ble_eq_true rfl) rfl (fun K hK O Z hn => ?_)
  refine E_iconst (pc := 0) O (0 : Int32) dX4_mixRail_0 (by decide) ?_
  refine E_istore_n (pc := 1) O 2 [some (.ref x0), some (.int x1), some (.int (0 : Int32))] dX4_mixRail_1 rfl (by decide) rfl rfl ?_
  exact t_f_X4_mixRail_2 O Z FU h x0 x1 (0 : Int32) hf
set_option maxHeartbeats 4000000 in
set_option maxRecDepth 100000 in
theorem t_b_X4_digest_136 {K : Cx} {fr : Bool} {out : (Int64 × MH)} (O : Ok K yX4_digest.cls cX4_digest 2 (rmm 9 199 0 0)) (Z : Out K (some .long) fr (some (.long out.1)) out.2) (rec136 : MH → Nat → Int32 → Option (Int64 × MH)) (hr136 : ∀ (h : MH) (x0 : Nat) (x1 : Int32), rec136 h x0 x1 = some out → EE K (fr, 0, 0) 136 [some (.ref x0), some (.int x1)] [] h) (h : MH) (x0 : Nat) (x1 : Int32) (hf : b_X4_digest_136 rec136 h x0 x1 = some out) : EE K (fr, 0, 0) 136 [some (.ref x0), some (.int x1)] [] h := by
  unfold b_X4_digest_136 at hf
  refine E_iload_n (pc := 136) O 1 dX4_digest_136 rfl rfl ?_
  refine E_aload_n (pc := 137) O 0 dX4_digest_137 rfl rfl ?_
  refine E_getI (pc := 138) O FL_RailSequenceModel_135 dX4_digest_138 hf (fun v1 hf => ?_)
  refine E_icmp_ge (pc := 141) O 161 dX4_digest_141 (by decide) hf (fun hf => ?_) (fun hf => ?_)
  · refine E_aload_n (pc := 161) O 0 dX4_digest_161 rfl rfl ?_
    refine E_getL (pc := 162) O FL_RailSequenceModel_225 dX4_digest_162 hf (fun v2 hf => ?_)
    exact E_lret (pc := 165) O Z hf ⟨(Nat.le_of_ble_eq_true rfl), (Nat.le_of_ble_eq_true rfl)⟩ dX4_digest_165
  · refine E_aload_n (pc := 144) O 0 dX4_digest_144 rfl rfl ?_
    refine E_aload_n (pc := 145) O 0 dX4_digest_145 rfl rfl ?_
    refine E_getR (pc := 146) O FL_RailSequenceModel_16 dX4_digest_146 hf (fun v3 hf => ?_)
    refine E_iload_n (pc := 149) O 1 dX4_digest_149 rfl rfl ?_
    refine E_iaload (pc := 150) O dX4_digest_150 hf (fun v4 hf => ?_)
    refine E_i2l (pc := 151) O dX4_digest_151 ?_
    refine E_callV_v (pc := 152) (S := []) O [.long (Int32.toInt64 v4)] CV_RailSequenceModel_229 rfl (fun r e => t_X4_mix e) dX4_digest_152 hf rfl ⟨(Nat.le_of_ble_eq_true rfl), (Nat.le_of_ble_eq_true rfl)⟩ ⟨(Nat.le_of_ble_eq_true rfl), (Nat.le_of_ble_eq_true rfl)⟩ (Nat.le_of_ble_eq_true rfl) (fun h5 hf => ?_)
    refine E_iinc (pc := 155) O (1 : Int32) [some (.ref x0), some (.int (x1 + (1 : Int32)))] dX4_digest_155 rfl (by decide) rfl (by decide) rfl ?_
    refine E_goto (pc := 158) O 136 dX4_digest_158 (by decide) ?_
    exact hr136 h5 x0 (x1 + (1 : Int32)) hf
theorem t_f_X4_digest_136 {K : Cx} {fr : Bool} {out : (Int64 × MH)} (O : Ok K yX4_digest.cls cX4_digest 2 (rmm 9 199 0 0)) (Z : Out K (some .long) fr (some (.long out.1)) out.2) : ∀ (n : Nat) (h : MH) (x0 : Nat) (x1 : Int32), f_X4_digest_136 n h x0 x1 = some out → EE K (fr, 0, 0) 136 [some (.ref x0), some (.int x1)] [] h := by
  intro n
  induction n with
  | zero => intro h x0 x1 hf; cases hf
  | succ n ih => intro h x0 x1 hf; exact t_b_X4_digest_136 O Z _ ih h x0 x1 hf
set_option maxHeartbeats 4000000 in
set_option maxRecDepth 100000 in
theorem t_b_X4_digest_61 {K : Cx} {fr : Bool} {out : (Int64 × MH)} (O : Ok K yX4_digest.cls cX4_digest 2 (rmm 9 199 0 0)) (Z : Out K (some .long) fr (some (.long out.1)) out.2) (rec61 : MH → Nat → Int32 → Option (Int64 × MH)) (hr61 : ∀ (h : MH) (x0 : Nat) (x1 : Int32), rec61 h x0 x1 = some out → EE K (fr, 0, 0) 61 [some (.ref x0), some (.int x1)] [] h) (h : MH) (x0 : Nat) (x1 : Int32) (hf : b_X4_digest_61 rec61 h x0 x1 = some out) : EE K (fr, 0, 0) 61 [some (.ref x0), some (.int x1)] [] h := by
  unfold b_X4_digest_61 at hf
  refine E_iload_n (pc := 61) O 1 dX4_digest_61 rfl rfl ?_
  refine E_iconst (pc := 62) O (4 : Int32) dX4_digest_62 (by decide) ?_
  refine E_aload_n (pc := 63) O 0 dX4_digest_63 rfl rfl ?_
  refine E_getR (pc := 64) O FL_RailSequenceModel_7 dX4_digest_64 hf (fun v6 hf => ?_)
  refine E_iconst (pc := 67) O (3 : Int32) dX4_digest_67 (by decide) ?_
  refine E_iaload (pc := 68) O dX4_digest_68 hf (fun v7 hf => ?_)
  refine E_imul (pc := 69) O dX4_digest_69 ?_
  refine E_icmp_ge (pc := 70) O 94 dX4_digest_70 (by decide) hf (fun hf => ?_) (fun hf => ?_)
  · refine E_aload_n (pc := 94) O 0 dX4_digest_94 rfl rfl ?_
    refine E_aload_n (pc := 95) O 0 dX4_digest_95 rfl rfl ?_
    refine E_iconst (pc := 96) O (0 : Int32) dX4_digest_96 (by decide) ?_
    refine E_callV_i (pc := 97) (S := [.ref x0]) O [.int (0 : Int32)] CV_RailSequenceModel_209 rfl (fun r e => t_X4_goesIn e) dX4_digest_97 hf rfl ⟨(Nat.le_of_ble_eq_true rfl), (Nat.le_of_ble_eq_true rfl)⟩ ⟨(Nat.le_of_ble_eq_true rfl), (Nat.le_of_ble_eq_true rfl)⟩ (Nat.le_of_ble_eq_true rfl) (fun p8 hf => ?_)
    refine E_i2l (pc := 100) O dX4_digest_100 ?_
    refine E_callV_v (pc := 101) (S := []) O [.long (Int32.toInt64 p8.1)] CV_RailSequenceModel_229 rfl (fun r e => t_X4_mix e) dX4_digest_101 hf rfl ⟨(Nat.le_of_ble_eq_true rfl), (Nat.le_of_ble_eq_true rfl)⟩ ⟨(Nat.le_of_ble_eq_true rfl), (Nat.le_of_ble_eq_true rfl)⟩ (Nat.le_of_ble_eq_true rfl) (fun h9 hf => ?_)
    refine E_aload_n (pc := 104) O 0 dX4_digest_104 rfl rfl ?_
    refine E_aload_n (pc := 105) O 0 dX4_digest_105 rfl rfl ?_
    refine E_iconst (pc := 106) O (1 : Int32) dX4_digest_106 (by decide) ?_
    refine E_callV_i (pc := 107) (S := [.ref x0]) O [.int (1 : Int32)] CV_RailSequenceModel_209 rfl (fun r e => t_X4_goesIn e) dX4_digest_107 hf rfl ⟨(Nat.le_of_ble_eq_true rfl), (Nat.le_of_ble_eq_true rfl)⟩ ⟨(Nat.le_of_ble_eq_true rfl), (Nat.le_of_ble_eq_true rfl)⟩ (Nat.le_of_ble_eq_true rfl) (fun p10 hf => ?_)
    refine E_i2l (pc := 110) O dX4_digest_110 ?_
    refine E_callV_v (pc := 111) (S := []) O [.long (Int32.toInt64 p10.1)] CV_RailSequenceModel_229 rfl (fun r e => t_X4_mix e) dX4_digest_111 hf rfl ⟨(Nat.le_of_ble_eq_true rfl), (Nat.le_of_ble_eq_true rfl)⟩ ⟨(Nat.le_of_ble_eq_true rfl), (Nat.le_of_ble_eq_true rfl)⟩ (Nat.le_of_ble_eq_true rfl) (fun h11 hf => ?_)
    refine E_aload_n (pc := 114) O 0 dX4_digest_114 rfl rfl ?_
    refine E_aload_n (pc := 115) O 0 dX4_digest_115 rfl rfl ?_
    refine E_callV_dP (pc := 116) (S := [.ref x0]) O [] CV_RailSequenceModel_219 rfl (fun r e => t_X4_shareNow e) dX4_digest_116 hf rfl ⟨(Nat.le_of_ble_eq_true rfl), (Nat.le_of_ble_eq_true rfl)⟩ ⟨(Nat.le_of_ble_eq_true rfl), (Nat.le_of_ble_eq_true rfl)⟩ (Nat.le_of_ble_eq_true rfl) (fun v12 hf => ?_)
    refine E_callS_lP (pc := 119) (S := [.ref x0]) O [.double v12] CS_RailSequenceModel_238 (fun r e => t_Jxe99ae_doubleToLongBits_ccdee e) dX4_digest_119 hf rfl ⟨(Nat.le_of_ble_eq_true rfl), (Nat.le_of_ble_eq_true rfl)⟩ ⟨(Nat.le_of_ble_eq_true rfl), (Nat.le_of_ble_eq_true rfl)⟩ (Nat.le_of_ble_eq_true rfl) (fun v13 hf => ?_)
    refine E_callV_v (pc := 122) (S := []) O [.long v13] CV_RailSequenceModel_229 rfl (fun r e => t_X4_mix e) dX4_digest_122 hf rfl ⟨(Nat.le_of_ble_eq_true rfl), (Nat.le_of_ble_eq_true rfl)⟩ ⟨(Nat.le_of_ble_eq_true rfl), (Nat.le_of_ble_eq_true rfl)⟩ (Nat.le_of_ble_eq_true rfl) (fun h14 hf => ?_)
    refine E_aload_n (pc := 125) O 0 dX4_digest_125 rfl rfl ?_
    refine E_aload_n (pc := 126) O 0 dX4_digest_126 rfl rfl ?_
    refine E_getI (pc := 127) O FL_RailSequenceModel_135 dX4_digest_127 hf (fun v15 hf => ?_)
    refine E_i2l (pc := 130) O dX4_digest_130 ?_
    refine E_callV_v (pc := 131) (S := []) O [.long (Int32.toInt64 v15)] CV_RailSequenceModel_229 rfl (fun r e => t_X4_mix e) dX4_digest_131 hf rfl ⟨(Nat.le_of_ble_eq_true rfl), (Nat.le_of_ble_eq_true rfl)⟩ ⟨(Nat.le_of_ble_eq_true rfl), (Nat.le_of_ble_eq_true rfl)⟩ (Nat.le_of_ble_eq_true rfl) (fun h16 hf => ?_)
    refine E_iconst (pc := 134) O (0 : Int32) dX4_digest_134 (by decide) ?_
    refine E_istore_n (pc := 135) O 1 [some (.ref x0), some (.int (0 : Int32))] dX4_digest_135 rfl (by decide) rfl rfl ?_
    exact t_f_X4_digest_136 O Z FU h16 x0 (0 : Int32) hf
  · refine E_aload_n (pc := 73) O 0 dX4_digest_73 rfl rfl ?_
    refine E_aload_n (pc := 74) O 0 dX4_digest_74 rfl rfl ?_
    refine E_iload_n (pc := 75) O 1 dX4_digest_75 rfl rfl ?_
    refine E_iconst (pc := 76) O (4 : Int32) dX4_digest_76 (by decide) ?_
    refine E_idiv (pc := 77) O dX4_digest_77 hf (fun v17 hf => ?_)
    refine E_iload_n (pc := 78) O 1 dX4_digest_78 rfl rfl ?_
    refine E_iconst (pc := 79) O (4 : Int32) dX4_digest_79 (by decide) ?_
    refine E_irem (pc := 80) O dX4_digest_80 hf (fun v18 hf => ?_)
    refine E_callV_iP (pc := 81) (S := [.ref x0]) O [.int v17, .int v18] CV_RailSequenceModel_182 rfl (fun r e => t_X4_entryNow e) dX4_digest_81 hf rfl ⟨(Nat.le_of_ble_eq_true rfl), (Nat.le_of_ble_eq_true rfl)⟩ ⟨(Nat.le_of_ble_eq_true rfl), (Nat.le_of_ble_eq_true rfl)⟩ (Nat.le_of_ble_eq_true rfl) (fun v19 hf => ?_)
    refine E_i2l (pc := 84) O dX4_digest_84 ?_
    refine E_callV_v (pc := 85) (S := []) O [.long (Int32.toInt64 v19)] CV_RailSequenceModel_229 rfl (fun r e => t_X4_mix e) dX4_digest_85 hf rfl ⟨(Nat.le_of_ble_eq_true rfl), (Nat.le_of_ble_eq_true rfl)⟩ ⟨(Nat.le_of_ble_eq_true rfl), (Nat.le_of_ble_eq_true rfl)⟩ (Nat.le_of_ble_eq_true rfl) (fun h20 hf => ?_)
    refine E_iinc (pc := 88) O (1 : Int32) [some (.ref x0), some (.int (x1 + (1 : Int32)))] dX4_digest_88 rfl (by decide) rfl (by decide) rfl ?_
    refine E_goto (pc := 91) O 61 dX4_digest_91 (by decide) ?_
    exact hr61 h20 x0 (x1 + (1 : Int32)) hf
theorem t_f_X4_digest_61 {K : Cx} {fr : Bool} {out : (Int64 × MH)} (O : Ok K yX4_digest.cls cX4_digest 2 (rmm 9 199 0 0)) (Z : Out K (some .long) fr (some (.long out.1)) out.2) : ∀ (n : Nat) (h : MH) (x0 : Nat) (x1 : Int32), f_X4_digest_61 n h x0 x1 = some out → EE K (fr, 0, 0) 61 [some (.ref x0), some (.int x1)] [] h := by
  intro n
  induction n with
  | zero => intro h x0 x1 hf; cases hf
  | succ n ih => intro h x0 x1 hf; exact t_b_X4_digest_61 O Z _ ih h x0 x1 hf
set_option maxHeartbeats 4000000 in
set_option maxRecDepth 100000 in
theorem t_b_X4_digest_38 {K : Cx} {fr : Bool} {out : (Int64 × MH)} (O : Ok K yX4_digest.cls cX4_digest 2 (rmm 9 199 0 0)) (Z : Out K (some .long) fr (some (.long out.1)) out.2) (rec38 : MH → Nat → Int32 → Option (Int64 × MH)) (hr38 : ∀ (h : MH) (x0 : Nat) (x1 : Int32), rec38 h x0 x1 = some out → EE K (fr, 0, 0) 38 [some (.ref x0), some (.int x1)] [] h) (h : MH) (x0 : Nat) (x1 : Int32) (hf : b_X4_digest_38 rec38 h x0 x1 = some out) : EE K (fr, 0, 0) 38 [some (.ref x0), some (.int x1)] [] h := by
  unfold b_X4_digest_38 at hf
  refine E_iload_n (pc := 38) O 1 dX4_digest_38 rfl rfl ?_
  refine E_aload_n (pc := 39) O 0 dX4_digest_39 rfl rfl ?_
  refine E_getR (pc := 40) O FL_RailSequenceModel_7 dX4_digest_40 hf (fun v21 hf => ?_)
  refine E_iconst (pc := 43) O (0 : Int32) dX4_digest_43 (by decide) ?_
  refine E_iaload (pc := 44) O dX4_digest_44 hf (fun v22 hf => ?_)
  refine E_icmp_ge (pc := 45) O 59 dX4_digest_45 (by decide) hf (fun hf => ?_) (fun hf => ?_)
  · refine E_iconst (pc := 59) O (0 : Int32) dX4_digest_59 (by decide) ?_
    refine E_istore_n (pc := 60) O 1 [some (.ref x0), some (.int (0 : Int32))] dX4_digest_60 rfl (by decide) rfl rfl ?_
    exact t_f_X4_digest_61 O Z FU h x0 (0 : Int32) hf
  · refine E_aload_n (pc := 48) O 0 dX4_digest_48 rfl rfl ?_
    refine E_iload_n (pc := 49) O 1 dX4_digest_49 rfl rfl ?_
    refine E_callV_v (pc := 50) (S := []) O [.int x1] CV_RailSequenceModel_235 rfl (fun r e => t_X4_mixRail e) dX4_digest_50 hf rfl ⟨(Nat.le_of_ble_eq_true rfl), (Nat.le_of_ble_eq_true rfl)⟩ ⟨(Nat.le_of_ble_eq_true rfl), (Nat.le_of_ble_eq_true rfl)⟩ (Nat.le_of_ble_eq_true rfl) (fun h23 hf => ?_)
    refine E_iinc (pc := 53) O (1 : Int32) [some (.ref x0), some (.int (x1 + (1 : Int32)))] dX4_digest_53 rfl (by decide) rfl (by decide) rfl ?_
    refine E_goto (pc := 56) O 38 dX4_digest_56 (by decide) ?_
    exact hr38 h23 x0 (x1 + (1 : Int32)) hf
theorem t_f_X4_digest_38 {K : Cx} {fr : Bool} {out : (Int64 × MH)} (O : Ok K yX4_digest.cls cX4_digest 2 (rmm 9 199 0 0)) (Z : Out K (some .long) fr (some (.long out.1)) out.2) : ∀ (n : Nat) (h : MH) (x0 : Nat) (x1 : Int32), f_X4_digest_38 n h x0 x1 = some out → EE K (fr, 0, 0) 38 [some (.ref x0), some (.int x1)] [] h := by
  intro n
  induction n with
  | zero => intro h x0 x1 hf; cases hf
  | succ n ih => intro h x0 x1 hf; exact t_b_X4_digest_38 O Z _ ih h x0 x1 hf
set_option maxHeartbeats 4000000 in
set_option maxRecDepth 100000 in
theorem t_b_X4_digest_14 {K : Cx} {fr : Bool} {out : (Int64 × MH)} (O : Ok K yX4_digest.cls cX4_digest 2 (rmm 9 199 0 0)) (Z : Out K (some .long) fr (some (.long out.1)) out.2) (rec14 : MH → Nat → Int32 → Option (Int64 × MH)) (hr14 : ∀ (h : MH) (x0 : Nat) (x1 : Int32), rec14 h x0 x1 = some out → EE K (fr, 0, 0) 14 [some (.ref x0), some (.int x1)] [] h) (h : MH) (x0 : Nat) (x1 : Int32) (hf : b_X4_digest_14 rec14 h x0 x1 = some out) : EE K (fr, 0, 0) 14 [some (.ref x0), some (.int x1)] [] h := by
  unfold b_X4_digest_14 at hf
  refine E_iload_n (pc := 14) O 1 dX4_digest_14 rfl rfl ?_
  refine E_bipush (pc := 15) O (10 : Int32) dX4_digest_15 (by decide) ?_
  refine E_icmp_ge (pc := 17) O 36 dX4_digest_17 (by decide) hf (fun hf => ?_) (fun hf => ?_)
  · refine E_iconst (pc := 36) O (0 : Int32) dX4_digest_36 (by decide) ?_
    refine E_istore_n (pc := 37) O 1 [some (.ref x0), some (.int (0 : Int32))] dX4_digest_37 rfl (by decide) rfl rfl ?_
    exact t_f_X4_digest_38 O Z FU h x0 (0 : Int32) hf
  · refine E_aload_n (pc := 20) O 0 dX4_digest_20 rfl rfl ?_
    refine E_aload_n (pc := 21) O 0 dX4_digest_21 rfl rfl ?_
    refine E_iload_n (pc := 22) O 1 dX4_digest_22 rfl rfl ?_
    refine E_callV_i (pc := 23) (S := [.ref x0]) O [.int x1] CV_RailSequenceModel_197 rfl (fun r e => t_X4_counted e) dX4_digest_23 hf rfl ⟨(Nat.le_of_ble_eq_true rfl), (Nat.le_of_ble_eq_true rfl)⟩ ⟨(Nat.le_of_ble_eq_true rfl), (Nat.le_of_ble_eq_true rfl)⟩ (Nat.le_of_ble_eq_true rfl) (fun p24 hf => ?_)
    refine E_i2l (pc := 26) O dX4_digest_26 ?_
    refine E_callV_v (pc := 27) (S := []) O [.long (Int32.toInt64 p24.1)] CV_RailSequenceModel_229 rfl (fun r e => t_X4_mix e) dX4_digest_27 hf rfl ⟨(Nat.le_of_ble_eq_true rfl), (Nat.le_of_ble_eq_true rfl)⟩ ⟨(Nat.le_of_ble_eq_true rfl), (Nat.le_of_ble_eq_true rfl)⟩ (Nat.le_of_ble_eq_true rfl) (fun h25 hf => ?_)
    refine E_iinc (pc := 30) O (1 : Int32) [some (.ref x0), some (.int (x1 + (1 : Int32)))] dX4_digest_30 rfl (by decide) rfl (by decide) rfl ?_
    refine E_goto (pc := 33) O 14 dX4_digest_33 (by decide) ?_
    exact hr14 h25 x0 (x1 + (1 : Int32)) hf
theorem t_f_X4_digest_14 {K : Cx} {fr : Bool} {out : (Int64 × MH)} (O : Ok K yX4_digest.cls cX4_digest 2 (rmm 9 199 0 0)) (Z : Out K (some .long) fr (some (.long out.1)) out.2) : ∀ (n : Nat) (h : MH) (x0 : Nat) (x1 : Int32), f_X4_digest_14 n h x0 x1 = some out → EE K (fr, 0, 0) 14 [some (.ref x0), some (.int x1)] [] h := by
  intro n
  induction n with
  | zero => intro h x0 x1 hf; cases hf
  | succ n ih => intro h x0 x1 hf; exact t_b_X4_digest_14 O Z _ ih h x0 x1 hf
set_option maxHeartbeats 4000000 in
set_option maxRecDepth 100000 in
theorem t_X4_digest {g : Gx} {fr : Bool} {h : MH} {x0} {out : (Int64 × MH)} (hf : f_X4_digest h x0 = some out) : MM g yX4_digest cX4_digest 2 (some .long) 9 199 0 0 fr fr [.ref x0] h (some (.long out.1)) out.2 := by
  unfold f_X4_digest at hf
  refine MM_of (L := [some (.ref x0), none]) (by decide) (Nat.le_of_ble_eq_true rfl) rfl (fun K hK O Z hn => ?_)
  refine E_aload_n (pc := 0) O 0 dX4_digest_0 rfl rfl ?_
  refine E_iconst (pc := 1) O (0 : Int32) dX4_digest_1 (by decide) ?_
  refine E_put (pc := 2) O FN_RailSequenceModel_28 rfl rfl dX4_digest_2 hf (fun h26 hf => ?_)
  refine E_aload_n (pc := 5) O 0 dX4_digest_5 rfl rfl ?_
  refine E_ldc2l (pc := 6) O (2179 : Int64) (aw5 107 (by decide +kernel) rfl) dX4_digest_6 ?_
  refine E_put (pc := 9) O FN_RailSequenceModel_225 rfl rfl dX4_digest_9 hf (fun h27 hf => ?_)
  refine E_iconst (pc := 12) O (0 : Int32) dX4_digest_12 (by decide) ?_
  refine E_istore_n (pc := 13) O 1 [some (.ref x0), some (.int (0 : Int32))] dX4_digest_13 rfl (by decide) rfl rfl ?_
  exact t_f_X4_digest_14 O Z FU h27 x0 (0 : Int32) hf
