/-! walks: the machine does what the plain functions say: written by program -/
set_option maxHeartbeats 4000000 in
set_option maxRecDepth 100000 in
theorem t_b_X4_entry_45 {K : Cx} {fr : Bool} {out : (Int32 × MH)} (O : Ok K yX4_entry.cls cX4_entry 3 (rmm 1 22 0 0)) (Z : Out K (some .int) fr (some (.int out.1)) out.2) (h : MH) (s0 : Int32) (hf : b_X4_entry_45 h s0 = some out) : EE K (fr, 0, 0) 45 [none, none, none] [.int s0] h := by
  unfold b_X4_entry_45 at hf
  exact E_iret (pc := 45) O Z hf ⟨(Nat.le_of_ble_eq_true rfl), (Nat.le_of_ble_eq_true rfl)⟩ dX4_entry_45
set_option maxHeartbeats 4000000 in
set_option maxRecDepth 100000 in
theorem t_b_X4_entry_25 {K : Cx} {fr : Bool} {out : (Int32 × MH)} (O : Ok K yX4_entry.cls cX4_entry 3 (rmm 1 22 0 0)) (Z : Out K (some .int) fr (some (.int out.1)) out.2) (h : MH) (x0 : Nat) (x1 : Int32) (x2 : Int32) (s0 : Nat) (s1 : Int32) (hf : b_X4_entry_25 h x0 x1 x2 s0 s1 = some out) : EE K (fr, 0, 0) 25 [some (.ref x0), some (.int x1), some (.int x2)] [.int s1, .ref s0] h := by
  unfold b_X4_entry_25 at hf
  refine E_put (pc := 25) O FN_RailSequenceModel_28 rfl rfl dX4_entry_25 hf (fun h1 hf => ?_)
  refine E_aload_n (pc := 28) O 0 dX4_entry_28 rfl rfl ?_
  refine E_getI (pc := 29) O FL_RailSequenceModel_28 dX4_entry_29 hf (fun v2 hf => ?_)
  refine E_if_le (pc := 32) O 39 dX4_entry_32 (by decide) hf (fun hf => ?_) (fun hf => ?_)
  · refine E_aload_n (pc := 39) O 0 dX4_entry_39 rfl rfl ?_
    refine E_iload_n (pc := 40) O 1 dX4_entry_40 rfl rfl ?_
    refine E_iload_n (pc := 41) O 2 dX4_entry_41 rfl rfl ?_
    refine E_callV_iP (pc := 42) (S := []) O [.int x1, .int x2] CV_RailSequenceModel_182 rfl (fun r e => t_X4_entryNow e) dX4_entry_42 hf rfl ⟨(Nat.le_of_ble_eq_true rfl), (Nat.le_of_ble_eq_true rfl)⟩ ⟨(Nat.le_of_ble_eq_true rfl), (Nat.le_of_ble_eq_true rfl)⟩ (Nat.le_of_ble_eq_true rfl) (fun v3 hf => ?_)
    exact E_sub (L' := [none, none, none]) True.intro (t_b_X4_entry_45 O Z h1 v3 hf)
  · refine E_iconst (pc := 35) O (0 : Int32) dX4_entry_35 (by decide) ?_
    refine E_goto (pc := 36) O 45 dX4_entry_36 (by decide) ?_
    exact E_sub (L' := [none, none, none]) True.intro (t_b_X4_entry_45 O Z h1 (0 : Int32) hf)
set_option maxHeartbeats 4000000 in
set_option maxRecDepth 100000 in
theorem t_b_X4_entry_24 {K : Cx} {fr : Bool} {out : (Int32 × MH)} (O : Ok K yX4_entry.cls cX4_entry 3 (rmm 1 22 0 0)) (Z : Out K (some .int) fr (some (.int out.1)) out.2) (h : MH) (x0 : Nat) (x1 : Int32) (x2 : Int32) (s0 : Nat) (hf : b_X4_entry_24 h x0 x1 x2 s0 = some out) : EE K (fr, 0, 0) 24 [some (.ref x0), some (.int x1), some (.int x2)] [.ref s0] h := by
  unfold b_X4_entry_24 at hf
  refine E_iconst (pc := 24) O (1 : Int32) dX4_entry_24 (by decide) ?_
  exact t_b_X4_entry_25 O Z h x0 x1 x2 s0 (1 : Int32) hf
set_option maxHeartbeats 4000000 in
set_option maxRecDepth 100000 in
theorem t_X4_entry {g : Gx} {fr : Bool} {h : MH} {x0 x1 x2} {out : (Int32 × MH)} (hf : f_X4_entry h x0 x1 x2 = some out) : MM g yX4_entry cX4_entry 3 (some .int) 1 22 0 0 fr fr [.ref x0, .int x1, .int x2] h (some (.int out.1)) out.2 := by
  unfold f_X4_entry at hf
  refine MM_of (L := [some (.ref x0), some (.int x1), some (.int x2)]) (by decide) (Nat.le_of_ble_eq_true rfl) rfl (fun K hK O Z hn => ?_)
  refine E_aload_n (pc := 0) O 0 dX4_entry_0 rfl rfl ?_
  refine E_iload_n (pc := 1) O 1 dX4_entry_1 rfl rfl ?_
  refine E_iconst (pc := 2) O (0 : Int32) dX4_entry_2 (by decide) ?_
  refine E_bipush (pc := 3) O (15 : Int32) dX4_entry_3 (by decide) ?_
  refine E_callS_iP (pc := 5) (S := [.ref x0]) O [.int x1, .int (0 : Int32), .int (15 : Int32)] CS_RailSequenceModel_32 (fun r e => t_X4_within e) dX4_entry_5 hf rfl ⟨(Nat.le_of_ble_eq_true rfl), (Nat.le_of_ble_eq_true rfl)⟩ ⟨(Nat.le_of_ble_eq_true rfl), (Nat.le_of_ble_eq_true rfl)⟩ (Nat.le_of_ble_eq_true rfl) (fun v4 hf => ?_)
  refine E_if_eq (pc := 8) O 24 dX4_entry_8 (by decide) hf (fun hf => ?_) (fun hf => ?_)
  · exact t_b_X4_entry_24 O Z h x0 x1 x2 x0 hf
  · refine E_iload_n (pc := 11) O 2 dX4_entry_11 rfl rfl ?_
    refine E_iconst (pc := 12) O (0 : Int32) dX4_entry_12 (by decide) ?_
    refine E_iconst (pc := 13) O (3 : Int32) dX4_entry_13 (by decide) ?_
    refine E_callS_iP (pc := 14) (S := [.ref x0]) O [.int x2, .int (0 : Int32), .int (3 : Int32)] CS_RailSequenceModel_32 (fun r e => t_X4_within e) dX4_entry_14 hf rfl ⟨(Nat.le_of_ble_eq_true rfl), (Nat.le_of_ble_eq_true rfl)⟩ ⟨(Nat.le_of_ble_eq_true rfl), (Nat.le_of_ble_eq_true rfl)⟩ (Nat.le_of_ble_eq_true rfl) (fun v5 hf => ?_)
    refine E_if_eq (pc := 17) O 24 dX4_entry_17 (by decide) hf (fun hf => ?_) (fun hf => ?_)
    · exact t_b_X4_entry_24 O Z h x0 x1 x2 x0 hf
    · refine E_iconst (pc := 20) O (0 : Int32) dX4_entry_20 (by decide) ?_
      refine E_goto (pc := 21) O 25 dX4_entry_21 (by decide) ?_
      exact t_b_X4_entry_25 O Z h x0 x1 x2 x0 (0 : Int32) hf
set_option maxHeartbeats 4000000 in
set_option maxRecDepth 100000 in
theorem t_b_X4_forget_110 {K : Cx} {fr : Bool} {out : (Int32 × MH)} (O : Ok K yX4_forget.cls cX4_forget 6 (rmm 2 43 0 0)) (Z : Out K (some .int) fr (some (.int out.1)) out.2) (rec42 : MH → Nat → Int32 → Int32 → Int32 → Int32 → Option (Int32 × MH)) (hr42 : ∀ (h : MH) (x0 : Nat) (x1 : Int32) (x2 : Int32) (x3 : Int32) (x4 : Int32), rec42 h x0 x1 x2 x3 x4 = some out → EE K (fr, 0, 0) 42 [some (.ref x0), some (.int x1), some (.int x2), some (.int x3), some (.int x4), none] [] h) (h : MH) (x0 : Nat) (x1 : Int32) (x2 : Int32) (x3 : Int32) (x4 : Int32) (hf : b_X4_forget_110 rec42 h x0 x1 x2 x3 x4 = some out) : EE K (fr, 0, 0) 110 [some (.ref x0), some (.int x1), some (.int x2), some (.int x3), some (.int x4), none] [] h := by
  unfold b_X4_forget_110 at hf
  refine E_iinc (pc := 110) O (1 : Int32) [some (.ref x0), some (.int x1), some (.int x2), some (.int x3), some (.int (x4 + (1 : Int32))), none] dX4_forget_110 rfl (by decide) rfl (by decide) rfl ?_
  refine E_goto (pc := 113) O 42 dX4_forget_113 (by decide) ?_
  exact hr42 h x0 x1 x2 x3 (x4 + (1 : Int32)) hf
set_option maxHeartbeats 4000000 in
set_option maxRecDepth 100000 in
theorem t_b_X4_forget_68 {K : Cx} {fr : Bool} {out : (Int32 × MH)} (O : Ok K yX4_forget.cls cX4_forget 6 (rmm 2 43 0 0)) (Z : Out K (some .int) fr (some (.int out.1)) out.2) (rec42 : MH → Nat → Int32 → Int32 → Int32 → Int32 → Option (Int32 × MH)) (hr42 : ∀ (h : MH) (x0 : Nat) (x1 : Int32) (x2 : Int32) (x3 : Int32) (x4 : Int32), rec42 h x0 x1 x2 x3 x4 = some out → EE K (fr, 0, 0) 42 [some (.ref x0), some (.int x1), some (.int x2), some (.int x3), some (.int x4), none] [] h) (rec68 : MH → Nat → Int32 → Int32 → Int32 → Int32 → Int32 → Option (Int32 × MH)) (hr68 : ∀ (h : MH) (x0 : Nat) (x1 : Int32) (x2 : Int32) (x3 : Int32) (x4 : Int32) (x5 : Int32), rec68 h x0 x1 x2 x3 x4 x5 = some out → EE K (fr, 0, 0) 68 [some (.ref x0), some (.int x1), some (.int x2), some (.int x3), some (.int x4), some (.int x5)] [] h) (h : MH) (x0 : Nat) (x1 : Int32) (x2 : Int32) (x3 : Int32) (x4 : Int32) (x5 : Int32) (hf : b_X4_forget_68 rec42 rec68 h x0 x1 x2 x3 x4 x5 = some out) : EE K (fr, 0, 0) 68 [some (.ref x0), some (.int x1), some (.int x2), some (.int x3), some (.int x4), some (.int x5)] [] h := by
  unfold b_X4_forget_68 at hf
  refine E_iload (pc := 68) O dX4_forget_68 rfl ?_
  refine E_iconst (pc := 70) O (4 : Int32) dX4_forget_70 (by decide) ?_
  refine E_icmp_ge (pc := 71) O 107 dX4_forget_71 (by decide) hf (fun hf => ?_) (fun hf => ?_)
  · refine E_iinc (pc := 107) O (1 : Int32) [some (.ref x0), some (.int x1), some (.int (x2 + (1 : Int32))), some (.int x3), some (.int x4), some (.int x5)] dX4_forget_107 rfl (by decide) rfl (by decide) rfl ?_
    exact E_sub (L' := [some (.ref x0), some (.int x1), some (.int (x2 + (1 : Int32))), some (.int x3), some (.int x4), none]) (And.intro rfl (And.intro rfl (And.intro rfl (And.intro rfl (And.intro rfl True.intro))))) (t_b_X4_forget_110 O Z _ hr42 h x0 x1 (x2 + (1 : Int32)) x3 x4 hf)
  · refine E_aload_n (pc := 74) O 0 dX4_forget_74 rfl rfl ?_
    refine E_getR (pc := 75) O FL_RailSequenceModel_7 dX4_forget_75 hf (fun v1 hf => ?_)
    refine E_iconst (pc := 78) O (4 : Int32) dX4_forget_78 (by decide) ?_
    refine E_iconst (pc := 79) O (4 : Int32) dX4_forget_79 (by decide) ?_
    refine E_iload_n (pc := 80) O 2 dX4_forget_80 rfl rfl ?_
    refine E_imul (pc := 81) O dX4_forget_81 ?_
    refine E_iadd (pc := 82) O dX4_forget_82 ?_
    refine E_iload (pc := 83) O dX4_forget_83 rfl ?_
    refine E_iadd (pc := 85) O dX4_forget_85 ?_
    refine E_aload_n (pc := 86) O 0 dX4_forget_86 rfl rfl ?_
    refine E_getR (pc := 87) O FL_RailSequenceModel_7 dX4_forget_87 hf (fun v2 hf => ?_)
    refine E_iconst (pc := 90) O (4 : Int32) dX4_forget_90 (by decide) ?_
    refine E_iconst (pc := 91) O (4 : Int32) dX4_forget_91 (by decide) ?_
    refine E_iload (pc := 92) O dX4_forget_92 rfl ?_
    refine E_imul (pc := 94) O dX4_forget_94 ?_
    refine E_iadd (pc := 95) O dX4_forget_95 ?_
    refine E_iload (pc := 96) O dX4_forget_96 rfl ?_
    refine E_iadd (pc := 98) O dX4_forget_98 ?_
    refine E_iaload (pc := 99) O dX4_forget_99 hf (fun v3 hf => ?_)
    refine E_iastore (pc := 100) O dX4_forget_100 hf (fun h4 hf => ?_)
    refine E_iinc (pc := 101) O (1 : Int32) [some (.ref x0), some (.int x1), some (.int x2), some (.int x3), some (.int x4), some (.int (x5 + (1 : Int32)))] dX4_forget_101 rfl (by decide) rfl (by decide) rfl ?_
    refine E_goto (pc := 104) O 68 dX4_forget_104 (by decide) ?_
    exact hr68 h4 x0 x1 x2 x3 x4 (x5 + (1 : Int32)) hf
theorem t_f_X4_forget_68 {K : Cx} {fr : Bool} {out : (Int32 × MH)} (O : Ok K yX4_forget.cls cX4_forget 6 (rmm 2 43 0 0)) (Z : Out K (some .int) fr (some (.int out.1)) out.2) (rec42 : MH → Nat → Int32 → Int32 → Int32 → Int32 → Option (Int32 × MH)) (hr42 : ∀ (h : MH) (x0 : Nat) (x1 : Int32) (x2 : Int32) (x3 : Int32) (x4 : Int32), rec42 h x0 x1 x2 x3 x4 = some out → EE K (fr, 0, 0) 42 [some (.ref x0), some (.int x1), some (.int x2), some (.int x3), some (.int x4), none] [] h) : ∀ (n : Nat) (h : MH) (x0 : Nat) (x1 : Int32) (x2 : Int32) (x3 : Int32) (x4 : Int32) (x5 : Int32), f_X4_forget_68 rec42 n h x0 x1 x2 x3 x4 x5 = some out → EE K (fr, 0, 0) 68 [some (.ref x0), some (.int x1), some (.int x2), some (.int x3), some (.int x4), some (.int x5)] [] h := by
  intro n
  induction n with
  | zero => intro h x0 x1 x2 x3 x4 x5 hf; cases hf
  | succ n ih => intro h x0 x1 x2 x3 x4 x5 hf; exact t_b_X4_forget_68 O Z _ hr42 _ ih h x0 x1 x2 x3 x4 x5 hf
set_option maxHeartbeats 4000000 in
set_option maxRecDepth 100000 in
theorem t_b_X4_forget_42 {K : Cx} {fr : Bool} {out : (Int32 × MH)} (O : Ok K yX4_forget.cls cX4_forget 6 (rmm 2 43 0 0)) (Z : Out K (some .int) fr (some (.int out.1)) out.2) (rec42 : MH → Nat → Int32 → Int32 → Int32 → Int32 → Option (Int32 × MH)) (hr42 : ∀ (h : MH) (x0 : Nat) (x1 : Int32) (x2 : Int32) (x3 : Int32) (x4 : Int32), rec42 h x0 x1 x2 x3 x4 = some out → EE K (fr, 0, 0) 42 [some (.ref x0), some (.int x1), some (.int x2), some (.int x3), some (.int x4), none] [] h) (h : MH) (x0 : Nat) (x1 : Int32) (x2 : Int32) (x3 : Int32) (x4 : Int32) (hf : b_X4_forget_42 rec42 h x0 x1 x2 x3 x4 = some out) : EE K (fr, 0, 0) 42 [some (.ref x0), some (.int x1), some (.int x2), some (.int x3), some (.int x4), none] [] h := by
  unfold b_X4_forget_42 at hf
  refine E_iload (pc := 42) O dX4_forget_42 rfl ?_
  refine E_iload_n (pc := 44) O 3 dX4_forget_44 rfl rfl ?_
  refine E_icmp_ge (pc := 45) O 116 dX4_forget_45 (by decide) hf (fun hf => ?_) (fun hf => ?_)
  · refine E_aload_n (pc := 116) O 0 dX4_forget_116 rfl rfl ?_
    refine E_getR (pc := 117) O FL_RailSequenceModel_7 dX4_forget_117 hf (fun v5 hf => ?_)
    refine E_iconst (pc := 120) O (3 : Int32) dX4_forget_120 (by decide) ?_
    refine E_iload_n (pc := 121) O 2 dX4_forget_121 rfl rfl ?_
    refine E_iastore (pc := 122) O dX4_forget_122 hf (fun h6 hf => ?_)
    refine E_iload_n (pc := 123) O 3 dX4_forget_123 rfl rfl ?_
    refine E_iload_n (pc := 124) O 2 dX4_forget_124 rfl rfl ?_
    refine E_isub (pc := 125) O dX4_forget_125 ?_
    exact E_iret (pc := 126) O Z hf ⟨(Nat.le_of_ble_eq_true rfl), (Nat.le_of_ble_eq_true rfl)⟩ dX4_forget_126
  · refine E_aload_n (pc := 48) O 0 dX4_forget_48 rfl rfl ?_
    refine E_getR (pc := 49) O FL_RailSequenceModel_7 dX4_forget_49 hf (fun v7 hf => ?_)
    refine E_iconst (pc := 52) O (4 : Int32) dX4_forget_52 (by decide) ?_
    refine E_iconst (pc := 53) O (4 : Int32) dX4_forget_53 (by decide) ?_
    refine E_iload (pc := 54) O dX4_forget_54 rfl ?_
    refine E_imul (pc := 56) O dX4_forget_56 ?_
    refine E_iadd (pc := 57) O dX4_forget_57 ?_
    refine E_iconst (pc := 58) O (1 : Int32) dX4_forget_58 (by decide) ?_
    refine E_iadd (pc := 59) O dX4_forget_59 ?_
    refine E_iaload (pc := 60) O dX4_forget_60 hf (fun v8 hf => ?_)
    refine E_iload_n (pc := 61) O 1 dX4_forget_61 rfl rfl ?_
    refine E_icmp_eq (pc := 62) O 110 dX4_forget_62 (by decide) hf (fun hf => ?_) (fun hf => ?_)
    · exact t_b_X4_forget_110 O Z _ hr42 h x0 x1 x2 x3 x4 hf
    · refine E_iconst (pc := 65) O (0 : Int32) dX4_forget_65 (by decide) ?_
      refine E_istore (pc := 66) O [some (.ref x0), some (.int x1), some (.int x2), some (.int x3), some (.int x4), some (.int (0 : Int32))] dX4_forget_66 (by decide) rfl rfl ?_
      exact t_f_X4_forget_68 O Z _ hr42 FU h x0 x1 x2 x3 x4 (0 : Int32) hf
theorem t_f_X4_forget_42 {K : Cx} {fr : Bool} {out : (Int32 × MH)} (O : Ok K yX4_forget.cls cX4_forget 6 (rmm 2 43 0 0)) (Z : Out K (some .int) fr (some (.int out.1)) out.2) : ∀ (n : Nat) (h : MH) (x0 : Nat) (x1 : Int32) (x2 : Int32) (x3 : Int32) (x4 : Int32), f_X4_forget_42 n h x0 x1 x2 x3 x4 = some out → EE K (fr, 0, 0) 42 [some (.ref x0), some (.int x1), some (.int x2), some (.int x3), some (.int x4), none] [] h := by
  intro n
  induction n with
  | zero => intro h x0 x1 x2 x3 x4 hf; cases hf
  | succ n ih => intro h x0 x1 x2 x3 x4 hf; exact t_b_X4_forget_42 O Z _ ih h x0 x1 x2 x3 x4 hf
set_option maxHeartbeats 4000000 in
set_option maxRecDepth 100000 in
theorem t_b_X4_forget_14 {K : Cx} {fr : Bool} {out : (Int32 × MH)} (O : Ok K yX4_forget.cls cX4_forget 6 (rmm 2 43 0 0)) (Z : Out K (some .int) fr (some (.int out.1)) out.2) (h : MH) (x0 : Nat) (x1 : Int32) (s0 : Nat) (s1 : Int32) (hf : b_X4_forget_14 h x0 x1 s0 s1 = some out) : EE K (fr, 0, 0) 14 [some (.ref x0), some (.int x1), none, none, none, none] [.int s1, .ref s0] h := by
  unfold b_X4_forget_14 at hf
  refine E_put (pc := 14) O FN_RailSequenceModel_28 rfl rfl dX4_forget_14 hf (fun h9 hf => ?_)
  refine E_aload_n (pc := 17) O 0 dX4_forget_17 rfl rfl ?_
  refine E_getI (pc := 18) O FL_RailSequenceModel_28 dX4_forget_18 hf (fun v10 hf => ?_)
  refine E_if_le (pc := 21) O 26 dX4_forget_21 (by decide) hf (fun hf => ?_) (fun hf => ?_)
  · refine E_aload_n (pc := 26) O 0 dX4_forget_26 rfl rfl ?_
    refine E_callV_v (pc := 27) (S := []) O [] CV_RailSequenceModel_110 rfl (fun r e => t_X4_save e) dX4_forget_27 hf rfl ⟨(Nat.le_of_ble_eq_true rfl), (Nat.le_of_ble_eq_true rfl)⟩ ⟨(Nat.le_of_ble_eq_true rfl), (Nat.le_of_ble_eq_true rfl)⟩ (Nat.le_of_ble_eq_true rfl) (fun h11 hf => ?_)
    refine E_iconst (pc := 30) O (0 : Int32) dX4_forget_30 (by decide) ?_
    refine E_istore_n (pc := 31) O 2 [some (.ref x0), some (.int x1), some (.int (0 : Int32)), none, none, none] dX4_forget_31 rfl (by decide) rfl rfl ?_
    refine E_aload_n (pc := 32) O 0 dX4_forget_32 rfl rfl ?_
    refine E_getR (pc := 33) O FL_RailSequenceModel_7 dX4_forget_33 hf (fun v12 hf => ?_)
    refine E_iconst (pc := 36) O (3 : Int32) dX4_forget_36 (by decide) ?_
    refine E_iaload (pc := 37) O dX4_forget_37 hf (fun v13 hf => ?_)
    refine E_istore_n (pc := 38) O 3 [some (.ref x0), some (.int x1), some (.int (0 : Int32)), some (.int v13), none, none] dX4_forget_38 rfl (by decide) rfl rfl ?_
    refine E_iconst (pc := 39) O (0 : Int32) dX4_forget_39 (by decide) ?_
    refine E_istore (pc := 40) O [some (.ref x0), some (.int x1), some (.int (0 : Int32)), some (.int v13), some (.int (0 : Int32)), none] dX4_forget_40 (by decide) rfl rfl ?_
    exact t_f_X4_forget_42 O Z FU h11 x0 x1 (0 : Int32) v13 (0 : Int32) hf
  · refine E_iconst (pc := 24) O (0 : Int32) dX4_forget_24 (by decide) ?_
    exact E_iret (pc := 25) O Z hf ⟨(Nat.le_of_ble_eq_true rfl), (Nat.le_of_ble_eq_true rfl)⟩ dX4_forget_25
set_option maxHeartbeats 4000000 in
set_option maxRecDepth 100000 in
theorem t_X4_forget {g : Gx} {fr : Bool} {h : MH} {x0 x1} {out : (Int32 × MH)} (hf : f_X4_forget h x0 x1 = some out) : MM g yX4_forget cX4_forget 6 (some .int) 2 43 0 0 fr fr [.ref x0, .int x1] h (some (.int out.1)) out.2 := by
  unfold f_X4_forget at hf
  refine MM_of (L := [some (.ref x0), some (.int x1), none, none, none, none]) (by decide) (Nat.le_of_ble_eq_true rfl) rfl (fun K hK O Z hn => ?_)
  refine E_aload_n (pc := 0) O 0 dX4_forget_0 rfl rfl ?_
  refine E_aload_n (pc := 1) O 0 dX4_forget_1 rfl rfl ?_
  refine E_iload_n (pc := 2) O 1 dX4_forget_2 rfl rfl ?_
  refine E_callV_iP (pc := 3) (S := [.ref x0]) O [.int x1] CV_RailSequenceModel_117 rfl (fun r e => t_X4_isRail e) dX4_forget_3 hf rfl ⟨(Nat.le_of_ble_eq_true rfl), (Nat.le_of_ble_eq_true rfl)⟩ ⟨(Nat.le_of_ble_eq_true rfl), (Nat.le_of_ble_eq_true rfl)⟩ (Nat.le_of_ble_eq_true rfl) (fun v14 hf => ?_)
  refine E_if_eq (pc := 6) O 13 dX4_forget_6 (by decide) hf (fun hf => ?_) (fun hf => ?_)
  · refine E_iconst (pc := 13) O (1 : Int32) dX4_forget_13 (by decide) ?_
    exact t_b_X4_forget_14 O Z h x0 x1 x0 (1 : Int32) hf
  · refine E_iconst (pc := 9) O (0 : Int32) dX4_forget_9 (by decide) ?_
    refine E_goto (pc := 10) O 14 dX4_forget_10 (by decide) ?_
    exact t_b_X4_forget_14 O Z h x0 x1 x0 (0 : Int32) hf
set_option maxHeartbeats 4000000 in
set_option maxRecDepth 100000 in
theorem t_b_X4_voltages_4 {K : Cx} {fr : Bool} {out : Int32} {h : MH} (O : Ok K yX4_voltages.cls cX4_voltages 3 (rmm 1 22 0 0)) (Z : Out K (some .int) fr (some (.int out)) h) (rec4 : Nat → Int32 → Int32 → Option Int32) (hr4 : ∀ (x0 : Nat) (x1 : Int32) (x2 : Int32), rec4 x0 x1 x2 = some out → EE K (fr, 0, 0) 4 [some (.ref x0), some (.int x1), some (.int x2)] [] h) (x0 : Nat) (x1 : Int32) (x2 : Int32) (hf : b_X4_voltages_4 h rec4 x0 x1 x2 = some out) : EE K (fr, 0, 0) 4 [some (.ref x0), some (.int x1), some (.int x2)] [] h := by
  unfold b_X4_voltages_4 at hf
  refine E_iload_n (pc := 4) O 2 dX4_voltages_4 rfl rfl ?_
  refine E_aload_n (pc := 5) O 0 dX4_voltages_5 rfl rfl ?_
  refine E_getR (pc := 6) O FL_RailSequenceModel_7 dX4_voltages_6 hf (fun v1 hf => ?_)
  refine E_iconst (pc := 9) O (0 : Int32) dX4_voltages_9 (by decide) ?_
  refine E_iaload (pc := 10) O dX4_voltages_10 hf (fun v2 hf => ?_)
  refine E_icmp_ge (pc := 11) O 30 dX4_voltages_11 (by decide) hf (fun hf => ?_) (fun hf => ?_)
  · refine E_iload_n (pc := 30) O 1 dX4_voltages_30 rfl rfl ?_
    exact E_iretP (pc := 31) O Z hf ⟨(Nat.le_of_ble_eq_true rfl), (Nat.le_of_ble_eq_true rfl)⟩ dX4_voltages_31
  · refine E_iload_n (pc := 14) O 1 dX4_voltages_14 rfl rfl ?_
    refine E_aload_n (pc := 15) O 0 dX4_voltages_15 rfl rfl ?_
    refine E_iload_n (pc := 16) O 2 dX4_voltages_16 rfl rfl ?_
    refine E_bipush (pc := 17) O (10 : Int32) dX4_voltages_17 (by decide) ?_
    refine E_callV_iP (pc := 19) (S := [.int x1]) O [.int x2, .int (10 : Int32)] CV_RailSequenceModel_36 rfl (fun r e => t_X4_of e) dX4_voltages_19 hf rfl ⟨(Nat.le_of_ble_eq_true rfl), (Nat.le_of_ble_eq_true rfl)⟩ ⟨(Nat.le_of_ble_eq_true rfl), (Nat.le_of_ble_eq_true rfl)⟩ (Nat.le_of_ble_eq_true rfl) (fun v3 hf => ?_)
    refine E_iadd (pc := 22) O dX4_voltages_22 ?_
    obtain ⟨v4, ev4, hf⟩ := ob hf
    have ev4 := os ev4
    rw [ev4]
    refine E_istore_n (pc := 23) O 1 [some (.ref x0), some (.int v4), some (.int x2)] dX4_voltages_23 rfl (by decide) rfl rfl ?_
    refine E_iinc (pc := 24) O (1 : Int32) [some (.ref x0), some (.int v4), some (.int (x2 + (1 : Int32)))] dX4_voltages_24 rfl (by decide) rfl (by decide) rfl ?_
    refine E_goto (pc := 27) O 4 dX4_voltages_27 (by decide) ?_
    exact hr4 x0 v4 (x2 + (1 : Int32)) hf
theorem t_f_X4_voltages_4 {K : Cx} {fr : Bool} {out : Int32} {h : MH} (O : Ok K yX4_voltages.cls cX4_voltages 3 (rmm 1 22 0 0)) (Z : Out K (some .int) fr (some (.int out)) h) : ∀ (n : Nat) (x0 : Nat) (x1 : Int32) (x2 : Int32), f_X4_voltages_4 h n x0 x1 x2 = some out → EE K (fr, 0, 0) 4 [some (.ref x0), some (.int x1), some (.int x2)] [] h := by
  intro n
  induction n with
  | zero => intro x0 x1 x2 hf; cases hf
  | succ n ih => intro x0 x1 x2 hf; exact t_b_X4_voltages_4 O Z _ ih x0 x1 x2 hf
set_option maxHeartbeats 4000000 in
set_option maxRecDepth 100000 in
theorem t_X4_voltages {g : Gx} {fr : Bool} {h : MH} {x0} {out : Int32} (hf : f_X4_voltages h x0 = some out) : MM g yX4_voltages cX4_voltages 3 (some .int) 1 22 0 0 fr fr [.ref x0] h (some (.int out)) h := by
  unfold f_X4_voltages at hf
  refine MM_of (L := [some (.ref x0), none, none]) (by decide) (Nat.le_of_ble_eq_true rfl) rfl (fun K hK O Z hn => ?_)
  refine E_iconst (pc := 0) O (0 : Int32) dX4_voltages_0 (by decide) ?_
  refine E_istore_n (pc := 1) O 1 [some (.ref x0), some (.int (0 : Int32)), none] dX4_voltages_1 rfl (by decide) rfl rfl ?_
  refine E_iconst (pc := 2) O (0 : Int32) dX4_voltages_2 (by decide) ?_
  refine E_istore_n (pc := 3) O 2 [some (.ref x0), some (.int (0 : Int32)), some (.int (0 : Int32))] dX4_voltages_3 rfl (by decide) rfl rfl ?_
  exact t_f_X4_voltages_4 O Z FU x0 (0 : Int32) (0 : Int32) hf
set_option maxHeartbeats 4000000 in
set_option maxRecDepth 100000 in
theorem t_b_X4_isStill_102 {K : Cx} {fr : Bool} {out : (Int32 × MH)} (O : Ok K yX4_isStill.cls cX4_isStill 4 (rmm 7 155 0 0)) (Z : Out K (some .boolean) fr (some (.int out.1)) out.2) (rec12 : MH → Nat → Int32 → Int32 → Option (Int32 × MH)) (hr12 : ∀ (h : MH) (x0 : Nat) (x1 : Int32) (x2 : Int32), rec12 h x0 x1 x2 = some out → EE K (fr, 0, 0) 12 [some (.ref x0), some (.int x1), some (.int x2), none] [] h) (h : MH) (x0 : Nat) (x2 : Int32) (s0 : Int32) (hf : b_X4_isStill_102 rec12 h x0 x2 s0 = some out) : EE K (fr, 0, 0) 102 [some (.ref x0), none, some (.int x2), none] [.int s0] h := by
  unfold b_X4_isStill_102 at hf
  refine E_istore_n (pc := 102) O 1 [some (.ref x0), some (.int s0), some (.int x2), none] dX4_isStill_102 rfl (by decide) rfl rfl ?_
  refine E_iinc (pc := 103) O (1 : Int32) [some (.ref x0), some (.int s0), some (.int (x2 + (1 : Int32))), none] dX4_isStill_103 rfl (by decide) rfl (by decide) rfl ?_
  refine E_goto (pc := 106) O 12 dX4_isStill_106 (by decide) ?_
  exact hr12 h x0 s0 (x2 + (1 : Int32)) hf
set_option maxHeartbeats 4000000 in
set_option maxRecDepth 100000 in
theorem t_b_X4_isStill_101 {K : Cx} {fr : Bool} {out : (Int32 × MH)} (O : Ok K yX4_isStill.cls cX4_isStill 4 (rmm 7 155 0 0)) (Z : Out K (some .boolean) fr (some (.int out.1)) out.2) (rec12 : MH → Nat → Int32 → Int32 → Option (Int32 × MH)) (hr12 : ∀ (h : MH) (x0 : Nat) (x1 : Int32) (x2 : Int32), rec12 h x0 x1 x2 = some out → EE K (fr, 0, 0) 12 [some (.ref x0), some (.int x1), some (.int x2), none] [] h) (h : MH) (x0 : Nat) (x2 : Int32) (hf : b_X4_isStill_101 rec12 h x0 x2 = some out) : EE K (fr, 0, 0) 101 [some (.ref x0), none, some (.int x2), none] [] h := by
  unfold b_X4_isStill_101 at hf
  refine E_iconst (pc := 101) O (0 : Int32) dX4_isStill_101 (by decide) ?_
  exact t_b_X4_isStill_102 O Z _ hr12 h x0 x2 (0 : Int32) hf
set_option maxHeartbeats 4000000 in
set_option maxRecDepth 100000 in
theorem t_b_X4_isStill_12 {K : Cx} {fr : Bool} {out : (Int32 × MH)} (O : Ok K yX4_isStill.cls cX4_isStill 4 (rmm 7 155 0 0)) (Z : Out K (some .boolean) fr (some (.int out.1)) out.2) (rec12 : MH → Nat → Int32 → Int32 → Option (Int32 × MH)) (hr12 : ∀ (h : MH) (x0 : Nat) (x1 : Int32) (x2 : Int32), rec12 h x0 x1 x2 = some out → EE K (fr, 0, 0) 12 [some (.ref x0), some (.int x1), some (.int x2), none] [] h) (h : MH) (x0 : Nat) (x1 : Int32) (x2 : Int32) (hf : b_X4_isStill_12 rec12 h x0 x1 x2 = some out) : EE K (fr, 0, 0) 12 [some (.ref x0), some (.int x1), some (.int x2), none] [] h := by
  unfold b_X4_isStill_12 at hf
  refine E_iload_n (pc := 12) O 2 dX4_isStill_12 rfl rfl ?_
  refine E_aload_n (pc := 13) O 0 dX4_isStill_13 rfl rfl ?_
  refine E_getR (pc := 14) O FL_RailSequenceModel_7 dX4_isStill_14 hf (fun v1 hf => ?_)
  refine E_iconst (pc := 17) O (0 : Int32) dX4_isStill_17 (by decide) ?_
  refine E_iaload (pc := 18) O dX4_isStill_18 hf (fun v2 hf => ?_)
  refine E_icmp_ge (pc := 19) O 109 dX4_isStill_19 (by decide) hf (fun hf => ?_) (fun hf => ?_)
  · refine E_aload_n (pc := 109) O 0 dX4_isStill_109 rfl rfl ?_
    refine E_callV_v (pc := 110) (S := []) O [] CV_RailSequenceModel_188 rfl (fun r e => t_X4_takeBack e) dX4_isStill_110 hf rfl ⟨(Nat.le_of_ble_eq_true rfl), (Nat.le_of_ble_eq_true rfl)⟩ ⟨(Nat.le_of_ble_eq_true rfl), (Nat.le_of_ble_eq_true rfl)⟩ (Nat.le_of_ble_eq_true rfl) (fun h3 hf => ?_)
    refine E_iload_n (pc := 113) O 1 dX4_isStill_113 rfl rfl ?_
    exact E_zret (pc := 114) O Z hf ⟨(Nat.le_of_ble_eq_true rfl), (Nat.le_of_ble_eq_true rfl)⟩ dX4_isStill_114
  · refine E_bipush (pc := 22) O (68 : Int32) dX4_isStill_22 (by decide) ?_
    refine E_bipush (pc := 24) O (20 : Int32) dX4_isStill_24 (by decide) ?_
    refine E_iload_n (pc := 26) O 2 dX4_isStill_26 rfl rfl ?_
    refine E_imul (pc := 27) O dX4_isStill_27 ?_
    refine E_iadd (pc := 28) O dX4_isStill_28 ?_
    obtain ⟨v4, ev4, hf⟩ := ob hf
    have ev4 := os ev4
    rw [ev4]
    refine E_istore_n (pc := 29) O 3 [some (.ref x0), some (.int x1), some (.int x2), some (.int v4)] dX4_isStill_29 rfl (by decide) rfl rfl ?_
    refine E_iload_n (pc := 30) O 1 dX4_isStill_30 rfl rfl ?_
    refine E_if_eq (pc := 31) O 101 dX4_isStill_31 (by decide) hf (fun hf => ?_) (fun hf => ?_)
    · exact E_sub (L' := [some (.ref x0), none, some (.int x2), none]) (And.intro rfl (And.intro rfl True.intro)) (t_b_X4_isStill_101 O Z _ hr12 h x0 x2 hf)
    · refine E_aload_n (pc := 34) O 0 dX4_isStill_34 rfl rfl ?_
      refine E_getR (pc := 35) O FL_RailSequenceModel_7 dX4_isStill_35 hf (fun v5 hf => ?_)
      refine E_iload_n (pc := 38) O 3 dX4_isStill_38 rfl rfl ?_
      refine E_bipush (pc := 39) O (10 : Int32) dX4_isStill_39 (by decide) ?_
      refine E_iadd (pc := 41) O dX4_isStill_41 ?_
      refine E_iaload (pc := 42) O dX4_isStill_42 hf (fun v6 hf => ?_)
      refine E_aload_n (pc := 43) O 0 dX4_isStill_43 rfl rfl ?_
      refine E_getR (pc := 44) O FL_RailSequenceModel_22 dX4_isStill_44 hf (fun v7 hf => ?_)
      refine E_iload_n (pc := 47) O 3 dX4_isStill_47 rfl rfl ?_
      refine E_bipush (pc := 48) O (10 : Int32) dX4_isStill_48 (by decide) ?_
      refine E_iadd (pc := 50) O dX4_isStill_50 ?_
      refine E_iaload (pc := 51) O dX4_isStill_51 hf (fun v8 hf => ?_)
      refine E_icmp_ne (pc := 52) O 101 dX4_isStill_52 (by decide) hf (fun hf => ?_) (fun hf => ?_)
      · exact E_sub (L' := [some (.ref x0), none, some (.int x2), none]) (And.intro rfl (And.intro rfl True.intro)) (t_b_X4_isStill_101 O Z _ hr12 h x0 x2 hf)
      · refine E_aload_n (pc := 55) O 0 dX4_isStill_55 rfl rfl ?_
        refine E_getR (pc := 56) O FL_RailSequenceModel_7 dX4_isStill_56 hf (fun v9 hf => ?_)
        refine E_iload_n (pc := 59) O 3 dX4_isStill_59 rfl rfl ?_
        refine E_bipush (pc := 60) O (9 : Int32) dX4_isStill_60 (by decide) ?_
        refine E_iadd (pc := 62) O dX4_isStill_62 ?_
        refine E_iaload (pc := 63) O dX4_isStill_63 hf (fun v10 hf => ?_)
        refine E_aload_n (pc := 64) O 0 dX4_isStill_64 rfl rfl ?_
        refine E_getR (pc := 65) O FL_RailSequenceModel_22 dX4_isStill_65 hf (fun v11 hf => ?_)
        refine E_iload_n (pc := 68) O 3 dX4_isStill_68 rfl rfl ?_
        refine E_bipush (pc := 69) O (9 : Int32) dX4_isStill_69 (by decide) ?_
        refine E_iadd (pc := 71) O dX4_isStill_71 ?_
        refine E_iaload (pc := 72) O dX4_isStill_72 hf (fun v12 hf => ?_)
        refine E_icmp_ne (pc := 73) O 101 dX4_isStill_73 (by decide) hf (fun hf => ?_) (fun hf => ?_)
        · exact E_sub (L' := [some (.ref x0), none, some (.int x2), none]) (And.intro rfl (And.intro rfl True.intro)) (t_b_X4_isStill_101 O Z _ hr12 h x0 x2 hf)
        · refine E_aload_n (pc := 76) O 0 dX4_isStill_76 rfl rfl ?_
          refine E_getR (pc := 77) O FL_RailSequenceModel_7 dX4_isStill_77 hf (fun v13 hf => ?_)
          refine E_iload_n (pc := 80) O 3 dX4_isStill_80 rfl rfl ?_
          refine E_bipush (pc := 81) O (13 : Int32) dX4_isStill_81 (by decide) ?_
          refine E_iadd (pc := 83) O dX4_isStill_83 ?_
          refine E_iaload (pc := 84) O dX4_isStill_84 hf (fun v14 hf => ?_)
          refine E_aload_n (pc := 85) O 0 dX4_isStill_85 rfl rfl ?_
          refine E_getR (pc := 86) O FL_RailSequenceModel_22 dX4_isStill_86 hf (fun v15 hf => ?_)
          refine E_iload_n (pc := 89) O 3 dX4_isStill_89 rfl rfl ?_
          refine E_bipush (pc := 90) O (13 : Int32) dX4_isStill_90 (by decide) ?_
          refine E_iadd (pc := 92) O dX4_isStill_92 ?_
          refine E_iaload (pc := 93) O dX4_isStill_93 hf (fun v16 hf => ?_)
          refine E_icmp_ne (pc := 94) O 101 dX4_isStill_94 (by decide) hf (fun hf => ?_) (fun hf => ?_)
          · exact E_sub (L' := [some (.ref x0), none, some (.int x2), none]) (And.intro rfl (And.intro rfl True.intro)) (t_b_X4_isStill_101 O Z _ hr12 h x0 x2 hf)
          · refine E_iconst (pc := 97) O (1 : Int32) dX4_isStill_97 (by decide) ?_
            refine E_goto (pc := 98) O 102 dX4_isStill_98 (by decide) ?_
            exact E_sub (L' := [some (.ref x0), none, some (.int x2), none]) (And.intro rfl (And.intro rfl True.intro)) (t_b_X4_isStill_102 O Z _ hr12 h x0 x2 (1 : Int32) hf)
theorem t_f_X4_isStill_12 {K : Cx} {fr : Bool} {out : (Int32 × MH)} (O : Ok K yX4_isStill.cls cX4_isStill 4 (rmm 7 155 0 0)) (Z : Out K (some .boolean) fr (some (.int out.1)) out.2) : ∀ (n : Nat) (h : MH) (x0 : Nat) (x1 : Int32) (x2 : Int32), f_X4_isStill_12 n h x0 x1 x2 = some out → EE K (fr, 0, 0) 12 [some (.ref x0), some (.int x1), some (.int x2), none] [] h := by
  intro n
  induction n with
  | zero => intro h x0 x1 x2 hf; cases hf
  | succ n ih => intro h x0 x1 x2 hf; exact t_b_X4_isStill_12 O Z _ ih h x0 x1 x2 hf
set_option maxHeartbeats 4000000 in
set_option maxRecDepth 100000 in
theorem t_X4_isStill {g : Gx} {fr : Bool} {h : MH} {x0} {out : (Int32 × MH)} (hf : f_X4_isStill h x0 = some out) : MM g yX4_isStill cX4_isStill 4 (some .boolean) 7 155 0 0 fr fr [.ref x0] h (some (.int out.1)) out.2 := by
  unfold f_X4_isStill at hf
  refine MM_of (L := [some (.ref x0), none, none, none]) (by decide) (Nat.le_of_ble_eq_true rfl) rfl (fun K hK O Z hn => ?_)
  refine E_aload_n (pc := 0) O 0 dX4_isStill_0 rfl rfl ?_
  refine E_callV_v (pc := 1) (S := []) O [] CV_RailSequenceModel_185 rfl (fun r e => t_X4_keepAside e) dX4_isStill_1 hf rfl ⟨(Nat.le_of_ble_eq_true rfl), (Nat.le_of_ble_eq_true rfl)⟩ ⟨(Nat.le_of_ble_eq_true rfl), (Nat.le_of_ble_eq_true rfl)⟩ (Nat.le_of_ble_eq_true rfl) (fun h17 hf => ?_)
  refine E_aload_n (pc := 4) O 0 dX4_isStill_4 rfl rfl ?_
  refine E_callV_v (pc := 5) (S := []) O [] CV_RailSequenceModel_132 rfl (fun r e => t_X4_pass e) dX4_isStill_5 hf rfl ⟨(Nat.le_of_ble_eq_true rfl), (Nat.le_of_ble_eq_true rfl)⟩ ⟨(Nat.le_of_ble_eq_true rfl), (Nat.le_of_ble_eq_true rfl)⟩ (Nat.le_of_ble_eq_true rfl) (fun h18 hf => ?_)
  refine E_iconst (pc := 8) O (1 : Int32) dX4_isStill_8 (by decide) ?_
  refine E_istore_n (pc := 9) O 1 [some (.ref x0), some (.int (1 : Int32)), none, none] dX4_isStill_9 rfl (by decide) rfl rfl ?_
  refine E_iconst (pc := 10) O (0 : Int32) dX4_isStill_10 (by decide) ?_
  refine E_istore_n (pc := 11) O 2 [some (.ref x0), some (.int (1 : Int32)), some (.int (0 : Int32)), none] dX4_isStill_11 rfl (by decide) rfl rfl ?_
  exact t_f_X4_isStill_12 O Z FU h18 x0 (1 : Int32) (0 : Int32) hf
set_option maxHeartbeats 4000000 in
set_option maxRecDepth 100000 in
theorem t_b_X4_counted_126 {K : Cx} {fr : Bool} {out : (Int32 × MH)} (O : Ok K yX4_counted.cls cX4_counted 2 (rmm 8 178 0 0)) (Z : Out K (some .int) fr (some (.int out.1)) out.2) (h : MH) (s0 : Int32) (hf : b_X4_counted_126 h s0 = some out) : EE K (fr, 0, 0) 126 [none, none] [.int s0] h := by
  unfold b_X4_counted_126 at hf
  exact E_iret (pc := 126) O Z hf ⟨(Nat.le_of_ble_eq_true rfl), (Nat.le_of_ble_eq_true rfl)⟩ dX4_counted_126
set_option maxHeartbeats 4000000 in
set_option maxRecDepth 100000 in
theorem t_X4_counted {g : Gx} {fr : Bool} {h : MH} {x0 x1} {out : (Int32 × MH)} (hf : f_X4_counted h x0 x1 = some out) : MM g yX4_counted cX4_counted 2 (some .int) 8 178 0 0 fr fr [.ref x0, .int x1] h (some (.int out.1)) out.2 := by
  unfold f_X4_counted at hf
  refine MM_of (L := [some (.ref x0), some (.int x1)]) (by decide) (Nat.le_of_ble_eq_true rfl) rfl (fun K hK O Z hn => ?_)
  refine E_iload_n (pc := 0) O 1 dX4_counted_0 rfl rfl ?_
  refine E_ite hf (fun c1 hf => ?_) (fun n1_0 hf => ?_)
  · refine E_tswIn (pc := 1) (off := 51) O 0 52 c1 dX4_counted_1 (by decide) (by decide) (by decide) (by decide) ?_
    refine E_aload_n (pc := 52) O 0 dX4_counted_52 rfl rfl ?_
    refine E_getR (pc := 53) O FL_RailSequenceModel_7 dX4_counted_53 hf (fun v1 hf => ?_)
    refine E_iconst (pc := 56) O (0 : Int32) dX4_counted_56 (by decide) ?_
    refine E_iaload (pc := 57) O dX4_counted_57 hf (fun v2 hf => ?_)
    exact E_iret (pc := 58) O Z hf ⟨(Nat.le_of_ble_eq_true rfl), (Nat.le_of_ble_eq_true rfl)⟩ dX4_counted_58
  · refine E_ite hf (fun c1 hf => ?_) (fun n1_1 hf => ?_)
    · refine E_tswIn (pc := 1) (off := 58) O 1 59 c1 dX4_counted_1 (by decide) (by decide) (by decide) (by decide) ?_
      refine E_aload_n (pc := 59) O 0 dX4_counted_59 rfl rfl ?_
      refine E_getR (pc := 60) O FL_RailSequenceModel_7 dX4_counted_60 hf (fun v3 hf => ?_)
      refine E_iconst (pc := 63) O (2 : Int32) dX4_counted_63 (by decide) ?_
      refine E_iaload (pc := 64) O dX4_counted_64 hf (fun v4 hf => ?_)
      exact E_iret (pc := 65) O Z hf ⟨(Nat.le_of_ble_eq_true rfl), (Nat.le_of_ble_eq_true rfl)⟩ dX4_counted_65
    · refine E_ite hf (fun c1 hf => ?_) (fun n1_2 hf => ?_)
      · refine E_tswIn (pc := 1) (off := 65) O 2 66 c1 dX4_counted_1 (by decide) (by decide) (by decide) (by decide) ?_
        refine E_aload_n (pc := 66) O 0 dX4_counted_66 rfl rfl ?_
        refine E_getR (pc := 67) O FL_RailSequenceModel_7 dX4_counted_67 hf (fun v5 hf => ?_)
        refine E_iconst (pc := 70) O (1 : Int32) dX4_counted_70 (by decide) ?_
        refine E_iaload (pc := 71) O dX4_counted_71 hf (fun v6 hf => ?_)
        exact E_iret (pc := 72) O Z hf ⟨(Nat.le_of_ble_eq_true rfl), (Nat.le_of_ble_eq_true rfl)⟩ dX4_counted_72
      · refine E_ite hf (fun c1 hf => ?_) (fun n1_3 hf => ?_)
        · refine E_tswIn (pc := 1) (off := 72) O 3 73 c1 dX4_counted_1 (by decide) (by decide) (by decide) (by decide) ?_
          refine E_aload_n (pc := 73) O 0 dX4_counted_73 rfl rfl ?_
          refine E_bipush (pc := 74) O (8 : Int32) dX4_counted_74 (by decide) ?_
          refine E_iconst (pc := 76) O (1 : Int32) dX4_counted_76 (by decide) ?_
          refine E_callV_iP (pc := 77) (S := []) O [.int (8 : Int32), .int (1 : Int32)] CV_RailSequenceModel_123 rfl (fun r e => t_X4_maskOf e) dX4_counted_77 hf rfl ⟨(Nat.le_of_ble_eq_true rfl), (Nat.le_of_ble_eq_true rfl)⟩ ⟨(Nat.le_of_ble_eq_true rfl), (Nat.le_of_ble_eq_true rfl)⟩ (Nat.le_of_ble_eq_true rfl) (fun v7 hf => ?_)
          exact E_iret (pc := 80) O Z hf ⟨(Nat.le_of_ble_eq_true rfl), (Nat.le_of_ble_eq_true rfl)⟩ dX4_counted_80
        · refine E_ite hf (fun c1 hf => ?_) (fun n1_4 hf => ?_)
          · refine E_tswIn (pc := 1) (off := 80) O 4 81 c1 dX4_counted_1 (by decide) (by decide) (by decide) (by decide) ?_
            refine E_aload_n (pc := 81) O 0 dX4_counted_81 rfl rfl ?_
            refine E_bipush (pc := 82) O (9 : Int32) dX4_counted_82 (by decide) ?_
            refine E_iconst (pc := 84) O (3 : Int32) dX4_counted_84 (by decide) ?_
            refine E_callV_iP (pc := 85) (S := []) O [.int (9 : Int32), .int (3 : Int32)] CV_RailSequenceModel_123 rfl (fun r e => t_X4_maskOf e) dX4_counted_85 hf rfl ⟨(Nat.le_of_ble_eq_true rfl), (Nat.le_of_ble_eq_true rfl)⟩ ⟨(Nat.le_of_ble_eq_true rfl), (Nat.le_of_ble_eq_true rfl)⟩ (Nat.le_of_ble_eq_true rfl) (fun v8 hf => ?_)
            exact E_iret (pc := 88) O Z hf ⟨(Nat.le_of_ble_eq_true rfl), (Nat.le_of_ble_eq_true rfl)⟩ dX4_counted_88
          · refine E_ite hf (fun c1 hf => ?_) (fun n1_5 hf => ?_)
            · refine E_tswIn (pc := 1) (off := 88) O 5 89 c1 dX4_counted_1 (by decide) (by decide) (by decide) (by decide) ?_
              refine E_aload_n (pc := 89) O 0 dX4_counted_89 rfl rfl ?_
              refine E_bipush (pc := 90) O (9 : Int32) dX4_counted_90 (by decide) ?_
              refine E_iconst (pc := 92) O (5 : Int32) dX4_counted_92 (by decide) ?_
              refine E_callV_iP (pc := 93) (S := []) O [.int (9 : Int32), .int (5 : Int32)] CV_RailSequenceModel_123 rfl (fun r e => t_X4_maskOf e) dX4_counted_93 hf rfl ⟨(Nat.le_of_ble_eq_true rfl), (Nat.le_of_ble_eq_true rfl)⟩ ⟨(Nat.le_of_ble_eq_true rfl), (Nat.le_of_ble_eq_true rfl)⟩ (Nat.le_of_ble_eq_true rfl) (fun v9 hf => ?_)
              exact E_iret (pc := 96) O Z hf ⟨(Nat.le_of_ble_eq_true rfl), (Nat.le_of_ble_eq_true rfl)⟩ dX4_counted_96
            · refine E_ite hf (fun c1 hf => ?_) (fun n1_6 hf => ?_)
              · refine E_tswIn (pc := 1) (off := 96) O 6 97 c1 dX4_counted_1 (by decide) (by decide) (by decide) (by decide) ?_
                refine E_aload_n (pc := 97) O 0 dX4_counted_97 rfl rfl ?_
                refine E_getR (pc := 98) O FL_RailSequenceModel_7 dX4_counted_98 hf (fun v10 hf => ?_)
                refine E_iconst (pc := 101) O (3 : Int32) dX4_counted_101 (by decide) ?_
                refine E_iaload (pc := 102) O dX4_counted_102 hf (fun v11 hf => ?_)
                exact E_iret (pc := 103) O Z hf ⟨(Nat.le_of_ble_eq_true rfl), (Nat.le_of_ble_eq_true rfl)⟩ dX4_counted_103
              · refine E_ite hf (fun c1 hf => ?_) (fun n1_7 hf => ?_)
                · refine E_tswIn (pc := 1) (off := 103) O 7 104 c1 dX4_counted_1 (by decide) (by decide) (by decide) (by decide) ?_
                  refine E_aload_n (pc := 104) O 0 dX4_counted_104 rfl rfl ?_
                  refine E_callV_iP (pc := 105) (S := []) O [] CV_RailSequenceModel_191 rfl (fun r e => t_X4_voltages e) dX4_counted_105 hf rfl ⟨(Nat.le_of_ble_eq_true rfl), (Nat.le_of_ble_eq_true rfl)⟩ ⟨(Nat.le_of_ble_eq_true rfl), (Nat.le_of_ble_eq_true rfl)⟩ (Nat.le_of_ble_eq_true rfl) (fun v12 hf => ?_)
                  exact E_iret (pc := 108) O Z hf ⟨(Nat.le_of_ble_eq_true rfl), (Nat.le_of_ble_eq_true rfl)⟩ dX4_counted_108
                · refine E_ite hf (fun c1 hf => ?_) (fun n1_8 hf => ?_)
                  · refine E_tswIn (pc := 1) (off := 108) O 8 109 c1 dX4_counted_1 (by decide) (by decide) (by decide) (by decide) ?_
                    refine E_aload_n (pc := 109) O 0 dX4_counted_109 rfl rfl ?_
                    refine E_getI (pc := 110) O FL_RailSequenceModel_101 dX4_counted_110 hf (fun v13 hf => ?_)
                    exact E_iret (pc := 113) O Z hf ⟨(Nat.le_of_ble_eq_true rfl), (Nat.le_of_ble_eq_true rfl)⟩ dX4_counted_113
                  · refine E_tswOut (pc := 1) O 114 dX4_counted_1 (by have z := tsw_out 0 9 (by decide) (lt_s (lt_s (lt_s (lt_s (lt_s (lt_s (lt_s (lt_s (lt_s lt_0 n1_0) n1_1) n1_2) n1_3) n1_4) n1_5) n1_6) n1_7) n1_8); omega) (by decide) ?_
                    refine E_aload_n (pc := 114) O 0 dX4_counted_114 rfl rfl ?_
                    refine E_callV_i (pc := 115) (S := []) O [] CV_RailSequenceModel_194 rfl (fun r e => t_X4_isStill e) dX4_counted_115 hf rfl ⟨(Nat.le_of_ble_eq_true rfl), (Nat.le_of_ble_eq_true rfl)⟩ ⟨(Nat.le_of_ble_eq_true rfl), (Nat.le_of_ble_eq_true rfl)⟩ (Nat.le_of_ble_eq_true rfl) (fun p14 hf => ?_)
                    refine E_if_eq (pc := 118) O 125 dX4_counted_118 (by decide) hf (fun hf => ?_) (fun hf => ?_)
                    · refine E_iconst (pc := 125) O (0 : Int32) dX4_counted_125 (by decide) ?_
                      exact E_sub (L' := [none, none]) True.intro (t_b_X4_counted_126 O Z p14.2 (0 : Int32) hf)
                    · refine E_iconst (pc := 121) O (1 : Int32) dX4_counted_121 (by decide) ?_
                      refine E_goto (pc := 122) O 126 dX4_counted_122 (by decide) ?_
                      exact E_sub (L' := [none, none]) True.intro (t_b_X4_counted_126 O Z p14.2 (1 : Int32) hf)
set_option maxHeartbeats 4000000 in
set_option maxRecDepth 100000 in
theorem t_b_X4_count_35 {K : Cx} {fr : Bool} {out : (Int32 × MH)} (O : Ok K yX4_count.cls cX4_count 2 (rmm 9 199 0 0)) (Z : Out K (some .int) fr (some (.int out.1)) out.2) (h : MH) (s0 : Int32) (hf : b_X4_count_35 h s0 = some out) : EE K (fr, 0, 0) 35 [none, none] [.int s0] h := by
  unfold b_X4_count_35 at hf
  exact E_iret (pc := 35) O Z hf ⟨(Nat.le_of_ble_eq_true rfl), (Nat.le_of_ble_eq_true rfl)⟩ dX4_count_35
set_option maxHeartbeats 4000000 in
set_option maxRecDepth 100000 in
theorem t_b_X4_count_16 {K : Cx} {fr : Bool} {out : (Int32 × MH)} (O : Ok K yX4_count.cls cX4_count 2 (rmm 9 199 0 0)) (Z : Out K (some .int) fr (some (.int out.1)) out.2) (h : MH) (x0 : Nat) (x1 : Int32) (s0 : Nat) (s1 : Int32) (hf : b_X4_count_16 h x0 x1 s0 s1 = some out) : EE K (fr, 0, 0) 16 [some (.ref x0), some (.int x1)] [.int s1, .ref s0] h := by
  unfold b_X4_count_16 at hf
  refine E_put (pc := 16) O FN_RailSequenceModel_28 rfl rfl dX4_count_16 hf (fun h1 hf => ?_)
  refine E_aload_n (pc := 19) O 0 dX4_count_19 rfl rfl ?_
  refine E_getI (pc := 20) O FL_RailSequenceModel_28 dX4_count_20 hf (fun v2 hf => ?_)
  refine E_if_le (pc := 23) O 30 dX4_count_23 (by decide) hf (fun hf => ?_) (fun hf => ?_)
  · refine E_aload_n (pc := 30) O 0 dX4_count_30 rfl rfl ?_
    refine E_iload_n (pc := 31) O 1 dX4_count_31 rfl rfl ?_
    refine E_callV_i (pc := 32) (S := []) O [.int x1] CV_RailSequenceModel_197 rfl (fun r e => t_X4_counted e) dX4_count_32 hf rfl ⟨(Nat.le_of_ble_eq_true rfl), (Nat.le_of_ble_eq_true rfl)⟩ ⟨(Nat.le_of_ble_eq_true rfl), (Nat.le_of_ble_eq_true rfl)⟩ (Nat.le_of_ble_eq_true rfl) (fun p3 hf => ?_)
    exact E_sub (L' := [none, none]) True.intro (t_b_X4_count_35 O Z p3.2 p3.1 hf)
  · refine E_iconst (pc := 26) O (0 : Int32) dX4_count_26 (by decide) ?_
    refine E_goto (pc := 27) O 35 dX4_count_27 (by decide) ?_
    exact E_sub (L' := [none, none]) True.intro (t_b_X4_count_35 O Z h1 (0 : Int32) hf)
set_option maxHeartbeats 4000000 in
set_option maxRecDepth 100000 in
theorem t_X4_count {g : Gx} {fr : Bool} {h : MH} {x0 x1} {out : (Int32 × MH)} (hf : f_X4_count h x0 x1 = some out) : MM g yX4_count cX4_count 2 (some .int) 9 199 0 0 fr fr [.ref x0, .int x1] h (some (.int out.1)) out.2 := by
  unfold f_X4_count at hf
  refine MM_of (L := [some (.ref x0), some (.int x1)]) (by decide) (Nat.le_of_ble_eq_true rfl) rfl (fun K hK O Z hn => ?_)
  refine E_aload_n (pc := 0) O 0 dX4_count_0 rfl rfl ?_
  refine E_iload_n (pc := 1) O 1 dX4_count_1 rfl rfl ?_
  refine E_iconst (pc := 2) O (0 : Int32) dX4_count_2 (by decide) ?_
  refine E_bipush (pc := 3) O (9 : Int32) dX4_count_3 (by decide) ?_
  refine E_callS_iP (pc := 5) (S := [.ref x0]) O [.int x1, .int (0 : Int32), .int (9 : Int32)] CS_RailSequenceModel_32 (fun r e => t_X4_within e) dX4_count_5 hf rfl ⟨(Nat.le_of_ble_eq_true rfl), (Nat.le_of_ble_eq_true rfl)⟩ ⟨(Nat.le_of_ble_eq_true rfl), (Nat.le_of_ble_eq_true rfl)⟩ (Nat.le_of_ble_eq_true rfl) (fun v4 hf => ?_)
  refine E_if_eq (pc := 8) O 15 dX4_count_8 (by decide) hf (fun hf => ?_) (fun hf => ?_)
  · refine E_iconst (pc := 15) O (1 : Int32) dX4_count_15 (by decide) ?_
    exact t_b_X4_count_16 O Z h x0 x1 x0 (1 : Int32) hf
  · refine E_iconst (pc := 11) O (0 : Int32) dX4_count_11 (by decide) ?_
    refine E_goto (pc := 12) O 16 dX4_count_12 (by decide) ?_
    exact t_b_X4_count_16 O Z h x0 x1 x0 (0 : Int32) hf
set_option maxHeartbeats 4000000 in
set_option maxRecDepth 100000 in
theorem t_b_X4_isAllGood_25 {K : Cx} {fr : Bool} {out : Int32} {h : MH} (O : Ok K yX4_isAllGood.cls cX4_isAllGood 1 (rmm 2 46 0 0)) (Z : Out K (some .boolean) fr (some (.int out)) h) (s0 : Int32) (hf : b_X4_isAllGood_25 h s0 = some out) : EE K (fr, 0, 0) 25 [none] [.int s0] h := by
  unfold b_X4_isAllGood_25 at hf
  exact E_zretP (pc := 25) O Z hf ⟨(Nat.le_of_ble_eq_true rfl), (Nat.le_of_ble_eq_true rfl)⟩ dX4_isAllGood_25
set_option maxHeartbeats 4000000 in
set_option maxRecDepth 100000 in
theorem t_X4_isAllGood {g : Gx} {fr : Bool} {h : MH} {x0} {out : Int32} (hf : f_X4_isAllGood h x0 = some out) : MM g yX4_isAllGood cX4_isAllGood 1 (some .boolean) 2 46 0 0 fr fr [.ref x0] h (some (.int out)) h := by
  unfold f_X4_isAllGood at hf
  refine MM_of (L := [some (.ref x0)]) (by decide) (Nat.le_of_ble_eq_true rfl) rfl (fun K hK O Z hn => ?_)
  refine E_aload_n (pc := 0) O 0 dX4_isAllGood_0 rfl rfl ?_
  refine E_bipush (pc := 1) O (8 : Int32) dX4_isAllGood_1 (by decide) ?_
  refine E_iconst (pc := 3) O (1 : Int32) dX4_isAllGood_3 (by decide) ?_
  refine E_callV_iP (pc := 4) (S := []) O [.int (8 : Int32), .int (1 : Int32)] CV_RailSequenceModel_123 rfl (fun r e => t_X4_maskOf e) dX4_isAllGood_4 hf rfl ⟨(Nat.le_of_ble_eq_true rfl), (Nat.le_of_ble_eq_true rfl)⟩ ⟨(Nat.le_of_ble_eq_true rfl), (Nat.le_of_ble_eq_true rfl)⟩ (Nat.le_of_ble_eq_true rfl) (fun v1 hf => ?_)
  refine E_aload_n (pc := 7) O 0 dX4_isAllGood_7 rfl rfl ?_
  refine E_bipush (pc := 8) O (9 : Int32) dX4_isAllGood_8 (by decide) ?_
  refine E_iconst (pc := 10) O (3 : Int32) dX4_isAllGood_10 (by decide) ?_
  refine E_callV_iP (pc := 11) (S := [.int v1]) O [.int (9 : Int32), .int (3 : Int32)] CV_RailSequenceModel_123 rfl (fun r e => t_X4_maskOf e) dX4_isAllGood_11 hf rfl ⟨(Nat.le_of_ble_eq_true rfl), (Nat.le_of_ble_eq_true rfl)⟩ ⟨(Nat.le_of_ble_eq_true rfl), (Nat.le_of_ble_eq_true rfl)⟩ (Nat.le_of_ble_eq_true rfl) (fun v2 hf => ?_)
  refine E_iconst (pc := 14) O (-1 : Int32) dX4_isAllGood_14 (by decide) ?_
  refine E_ixor (pc := 15) O dX4_isAllGood_15 ?_
  refine E_iand (pc := 16) O dX4_isAllGood_16 ?_
  refine E_if_ne (pc := 17) O 24 dX4_isAllGood_17 (by decide) hf (fun hf => ?_) (fun hf => ?_)
  · refine E_iconst (pc := 24) O (0 : Int32) dX4_isAllGood_24 (by decide) ?_
    exact E_sub (L' := [none]) True.intro (t_b_X4_isAllGood_25 O Z (0 : Int32) hf)
  · refine E_iconst (pc := 20) O (1 : Int32) dX4_isAllGood_20 (by decide) ?_
    refine E_goto (pc := 21) O 25 dX4_isAllGood_21 (by decide) ?_
    exact E_sub (L' := [none]) True.intro (t_b_X4_isAllGood_25 O Z (1 : Int32) hf)
set_option maxHeartbeats 4000000 in
set_option maxRecDepth 100000 in
theorem t_b_X4_isAllOff_49 {K : Cx} {fr : Bool} {out : Int32} {h : MH} (O : Ok K yX4_isAllOff.cls cX4_isAllOff 3 (rmm 2 46 0 0)) (Z : Out K (some .boolean) fr (some (.int out)) h) (rec22 : Nat → Int32 → Int32 → Option Int32) (hr22 : ∀ (x0 : Nat) (x1 : Int32) (x2 : Int32), rec22 x0 x1 x2 = some out → EE K (fr, 0, 0) 22 [some (.ref x0), some (.int x1), some (.int x2)] [] h) (x0 : Nat) (x2 : Int32) (s0 : Int32) (hf : b_X4_isAllOff_49 h rec22 x0 x2 s0 = some out) : EE K (fr, 0, 0) 49 [some (.ref x0), none, some (.int x2)] [.int s0] h := by
  unfold b_X4_isAllOff_49 at hf
  refine E_istore_n (pc := 49) O 1 [some (.ref x0), some (.int s0), some (.int x2)] dX4_isAllOff_49 rfl (by decide) rfl rfl ?_
  refine E_iinc (pc := 50) O (1 : Int32) [some (.ref x0), some (.int s0), some (.int (x2 + (1 : Int32)))] dX4_isAllOff_50 rfl (by decide) rfl (by decide) rfl ?_
  refine E_goto (pc := 53) O 22 dX4_isAllOff_53 (by decide) ?_
  exact hr22 x0 s0 (x2 + (1 : Int32)) hf
set_option maxHeartbeats 4000000 in
set_option maxRecDepth 100000 in
theorem t_b_X4_isAllOff_48 {K : Cx} {fr : Bool} {out : Int32} {h : MH} (O : Ok K yX4_isAllOff.cls cX4_isAllOff 3 (rmm 2 46 0 0)) (Z : Out K (some .boolean) fr (some (.int out)) h) (rec22 : Nat → Int32 → Int32 → Option Int32) (hr22 : ∀ (x0 : Nat) (x1 : Int32) (x2 : Int32), rec22 x0 x1 x2 = some out → EE K (fr, 0, 0) 22 [some (.ref x0), some (.int x1), some (.int x2)] [] h) (x0 : Nat) (x2 : Int32) (hf : b_X4_isAllOff_48 h rec22 x0 x2 = some out) : EE K (fr, 0, 0) 48 [some (.ref x0), none, some (.int x2)] [] h := by
  unfold b_X4_isAllOff_48 at hf
  refine E_iconst (pc := 48) O (0 : Int32) dX4_isAllOff_48 (by decide) ?_
  exact t_b_X4_isAllOff_49 O Z _ hr22 x0 x2 (0 : Int32) hf
set_option maxHeartbeats 4000000 in
set_option maxRecDepth 100000 in
theorem t_b_X4_isAllOff_22 {K : Cx} {fr : Bool} {out : Int32} {h : MH} (O : Ok K yX4_isAllOff.cls cX4_isAllOff 3 (rmm 2 46 0 0)) (Z : Out K (some .boolean) fr (some (.int out)) h) (rec22 : Nat → Int32 → Int32 → Option Int32) (hr22 : ∀ (x0 : Nat) (x1 : Int32) (x2 : Int32), rec22 x0 x1 x2 = some out → EE K (fr, 0, 0) 22 [some (.ref x0), some (.int x1), some (.int x2)] [] h) (x0 : Nat) (x1 : Int32) (x2 : Int32) (hf : b_X4_isAllOff_22 h rec22 x0 x1 x2 = some out) : EE K (fr, 0, 0) 22 [some (.ref x0), some (.int x1), some (.int x2)] [] h := by
  unfold b_X4_isAllOff_22 at hf
  refine E_iload_n (pc := 22) O 2 dX4_isAllOff_22 rfl rfl ?_
  refine E_aload_n (pc := 23) O 0 dX4_isAllOff_23 rfl rfl ?_
  refine E_getR (pc := 24) O FL_RailSequenceModel_7 dX4_isAllOff_24 hf (fun v1 hf => ?_)
  refine E_iconst (pc := 27) O (0 : Int32) dX4_isAllOff_27 (by decide) ?_
  refine E_iaload (pc := 28) O dX4_isAllOff_28 hf (fun v2 hf => ?_)
  refine E_icmp_ge (pc := 29) O 56 dX4_isAllOff_29 (by decide) hf (fun hf => ?_) (fun hf => ?_)
  · refine E_iload_n (pc := 56) O 1 dX4_isAllOff_56 rfl rfl ?_
    exact E_zretP (pc := 57) O Z hf ⟨(Nat.le_of_ble_eq_true rfl), (Nat.le_of_ble_eq_true rfl)⟩ dX4_isAllOff_57
  · refine E_iload_n (pc := 32) O 1 dX4_isAllOff_32 rfl rfl ?_
    refine E_if_eq (pc := 33) O 48 dX4_isAllOff_33 (by decide) hf (fun hf => ?_) (fun hf => ?_)
    · exact E_sub (L' := [some (.ref x0), none, some (.int x2)]) (And.intro rfl (And.intro rfl True.intro)) (t_b_X4_isAllOff_48 O Z _ hr22 x0 x2 hf)
    · refine E_aload_n (pc := 36) O 0 dX4_isAllOff_36 rfl rfl ?_
      refine E_iload_n (pc := 37) O 2 dX4_isAllOff_37 rfl rfl ?_
      refine E_callV_iP (pc := 38) (S := []) O [.int x2] CV_RailSequenceModel_69 rfl (fun r e => t_X4_isDischarged e) dX4_isAllOff_38 hf rfl ⟨(Nat.le_of_ble_eq_true rfl), (Nat.le_of_ble_eq_true rfl)⟩ ⟨(Nat.le_of_ble_eq_true rfl), (Nat.le_of_ble_eq_true rfl)⟩ (Nat.le_of_ble_eq_true rfl) (fun v3 hf => ?_)
      refine E_if_eq (pc := 41) O 48 dX4_isAllOff_41 (by decide) hf (fun hf => ?_) (fun hf => ?_)
      · exact E_sub (L' := [some (.ref x0), none, some (.int x2)]) (And.intro rfl (And.intro rfl True.intro)) (t_b_X4_isAllOff_48 O Z _ hr22 x0 x2 hf)
      · refine E_iconst (pc := 44) O (1 : Int32) dX4_isAllOff_44 (by decide) ?_
        refine E_goto (pc := 45) O 49 dX4_isAllOff_45 (by decide) ?_
        exact E_sub (L' := [some (.ref x0), none, some (.int x2)]) (And.intro rfl (And.intro rfl True.intro)) (t_b_X4_isAllOff_49 O Z _ hr22 x0 x2 (1 : Int32) hf)
theorem t_f_X4_isAllOff_22 {K : Cx} {fr : Bool} {out : Int32} {h : MH} (O : Ok K yX4_isAllOff.cls cX4_isAllOff 3 (rmm 2 46 0 0)) (Z : Out K (some .boolean) fr (some (.int out)) h) : ∀ (n : Nat) (x0 : Nat) (x1 : Int32) (x2 : Int32), f_X4_isAllOff_22 h n x0 x1 x2 = some out → EE K (fr, 0, 0) 22 [some (.ref x0), some (.int x1), some (.int x2)] [] h := by
  intro n
  induction n with
  | zero => intro x0 x1 x2 hf; cases hf
  | succ n ih => intro x0 x1 x2 hf; exact t_b_X4_isAllOff_22 O Z _ ih x0 x1 x2 hf
set_option maxHeartbeats 4000000 in
set_option maxRecDepth 100000 in
theorem t_b_X4_isAllOff_19 {K : Cx} {fr : Bool} {out : Int32} {h : MH} (O : Ok K yX4_isAllOff.cls cX4_isAllOff 3 (rmm 2 46 0 0)) (Z : Out K (some .boolean) fr (some (.int out)) h) (x0 : Nat) (s0 : Int32) (hf : b_X4_isAllOff_19 h x0 s0 = some out) : EE K (fr, 0, 0) 19 [some (.ref x0), none, none] [.int s0] h := by
  unfold b_X4_isAllOff_19 at hf
  refine E_istore_n (pc := 19) O 1 [some (.ref x0), some (.int s0), none] dX4_isAllOff_19 rfl (by decide) rfl rfl ?_
  refine E_iconst (pc := 20) O (0 : Int32) dX4_isAllOff_20 (by decide) ?_
  refine E_istore_n (pc := 21) O 2 [some (.ref x0), some (.int s0), some (.int (0 : Int32))] dX4_isAllOff_21 rfl (by decide) rfl rfl ?_
  exact t_f_X4_isAllOff_22 O Z FU x0 s0 (0 : Int32) hf
set_option maxHeartbeats 4000000 in
set_option maxRecDepth 100000 in
theorem t_X4_isAllOff {g : Gx} {fr : Bool} {h : MH} {x0} {out : Int32} (hf : f_X4_isAllOff h x0 = some out) : MM g yX4_isAllOff cX4_isAllOff 3 (some .boolean) 2 46 0 0 fr fr [.ref x0] h (some (.int out)) h := by
  unfold f_X4_isAllOff at hf
  refine MM_of (L := [some (.ref x0), none, none]) (by decide) (Nat.le_of_ble_eq_true rfl) rfl (fun K hK O Z hn => ?_)
  refine E_aload_n (pc := 0) O 0 dX4_isAllOff_0 rfl rfl ?_
  refine E_bipush (pc := 1) O (9 : Int32) dX4_isAllOff_1 (by decide) ?_
  refine E_iconst (pc := 3) O (0 : Int32) dX4_isAllOff_3 (by decide) ?_
  refine E_callV_iP (pc := 4) (S := []) O [.int (9 : Int32), .int (0 : Int32)] CV_RailSequenceModel_123 rfl (fun r e => t_X4_maskOf e) dX4_isAllOff_4 hf rfl ⟨(Nat.le_of_ble_eq_true rfl), (Nat.le_of_ble_eq_true rfl)⟩ ⟨(Nat.le_of_ble_eq_true rfl), (Nat.le_of_ble_eq_true rfl)⟩ (Nat.le_of_ble_eq_true rfl) (fun v4 hf => ?_)
  refine E_aload_n (pc := 7) O 0 dX4_isAllOff_7 rfl rfl ?_
  refine E_callV_iP (pc := 8) (S := [.int v4]) O [] CV_RailSequenceModel_200 rfl (fun r e => t_X4_allRails e) dX4_isAllOff_8 hf rfl ⟨(Nat.le_of_ble_eq_true rfl), (Nat.le_of_ble_eq_true rfl)⟩ ⟨(Nat.le_of_ble_eq_true rfl), (Nat.le_of_ble_eq_true rfl)⟩ (Nat.le_of_ble_eq_true rfl) (fun v5 hf => ?_)
  refine E_icmp_ne (pc := 11) O 18 dX4_isAllOff_11 (by decide) hf (fun hf => ?_) (fun hf => ?_)
  · refine E_iconst (pc := 18) O (0 : Int32) dX4_isAllOff_18 (by decide) ?_
    exact t_b_X4_isAllOff_19 O Z x0 (0 : Int32) hf
  · refine E_iconst (pc := 14) O (1 : Int32) dX4_isAllOff_14 (by decide) ?_
    refine E_goto (pc := 15) O 19 dX4_isAllOff_15 (by decide) ?_
    exact t_b_X4_isAllOff_19 O Z x0 (1 : Int32) hf
set_option maxHeartbeats 4000000 in
set_option maxRecDepth 100000 in
theorem t_b_X4_goesIn_72 {K : Cx} {fr : Bool} {out : (Int32 × MH)} (O : Ok K yX4_goesIn.cls cX4_goesIn 3 (rmm 7 155 0 0)) (Z : Out K (some .int) fr (some (.int out.1)) out.2) (h : MH) (s0 : Int32) (hf : b_X4_goesIn_72 h s0 = some out) : EE K (fr, 0, 0) 72 [none, none, none] [.int s0] h := by
  unfold b_X4_goesIn_72 at hf
  exact E_iret (pc := 72) O Z hf ⟨(Nat.le_of_ble_eq_true rfl), (Nat.le_of_ble_eq_true rfl)⟩ dX4_goesIn_72
set_option maxHeartbeats 4000000 in
set_option maxRecDepth 100000 in
theorem t_b_X4_goesIn_56 {K : Cx} {fr : Bool} {out : (Int32 × MH)} (O : Ok K yX4_goesIn.cls cX4_goesIn 3 (rmm 7 155 0 0)) (Z : Out K (some .int) fr (some (.int out.1)) out.2) (h : MH) (x0 : Nat) (x2 : Int32) (hf : b_X4_goesIn_56 h x0 x2 = some out) : EE K (fr, 0, 0) 56 [some (.ref x0), none, some (.int x2)] [] h := by
  unfold b_X4_goesIn_56 at hf
  refine E_aload_n (pc := 56) O 0 dX4_goesIn_56 rfl rfl ?_
  refine E_callV_v (pc := 57) (S := []) O [] CV_RailSequenceModel_188 rfl (fun r e => t_X4_takeBack e) dX4_goesIn_57 hf rfl ⟨(Nat.le_of_ble_eq_true rfl), (Nat.le_of_ble_eq_true rfl)⟩ ⟨(Nat.le_of_ble_eq_true rfl), (Nat.le_of_ble_eq_true rfl)⟩ (Nat.le_of_ble_eq_true rfl) (fun h1 hf => ?_)
  refine E_iload_n (pc := 60) O 2 dX4_goesIn_60 rfl rfl ?_
  refine E_sipush (pc := 61) O (1000 : Int32) dX4_goesIn_61 (by decide) ?_
  refine E_icmp_le (pc := 64) O 71 dX4_goesIn_64 (by decide) hf (fun hf => ?_) (fun hf => ?_)
  · refine E_iload_n (pc := 71) O 2 dX4_goesIn_71 rfl rfl ?_
    exact E_sub (L' := [none, none, none]) True.intro (t_b_X4_goesIn_72 O Z h1 x2 hf)
  · refine E_iconst (pc := 67) O (-1 : Int32) dX4_goesIn_67 (by decide) ?_
    refine E_goto (pc := 68) O 72 dX4_goesIn_68 (by decide) ?_
    exact E_sub (L' := [none, none, none]) True.intro (t_b_X4_goesIn_72 O Z h1 (-1 : Int32) hf)
set_option maxHeartbeats 4000000 in
set_option maxRecDepth 100000 in
theorem t_b_X4_goesIn_46 {K : Cx} {fr : Bool} {out : (Int32 × MH)} (O : Ok K yX4_goesIn.cls cX4_goesIn 3 (rmm 7 155 0 0)) (Z : Out K (some .int) fr (some (.int out.1)) out.2) (rec18 : MH → Nat → Int32 → Int32 → Option (Int32 × MH)) (hr18 : ∀ (h : MH) (x0 : Nat) (x1 : Int32) (x2 : Int32), rec18 h x0 x1 x2 = some out → EE K (fr, 0, 0) 18 [some (.ref x0), some (.int x1), some (.int x2)] [] h) (h : MH) (x0 : Nat) (x1 : Int32) (x2 : Int32) (hf : b_X4_goesIn_46 rec18 h x0 x1 x2 = some out) : EE K (fr, 0, 0) 46 [some (.ref x0), some (.int x1), some (.int x2)] [] h := by
  unfold b_X4_goesIn_46 at hf
  refine E_aload_n (pc := 46) O 0 dX4_goesIn_46 rfl rfl ?_
  refine E_callV_v (pc := 47) (S := []) O [] CV_RailSequenceModel_132 rfl (fun r e => t_X4_pass e) dX4_goesIn_47 hf rfl ⟨(Nat.le_of_ble_eq_true rfl), (Nat.le_of_ble_eq_true rfl)⟩ ⟨(Nat.le_of_ble_eq_true rfl), (Nat.le_of_ble_eq_true rfl)⟩ (Nat.le_of_ble_eq_true rfl) (fun h2 hf => ?_)
  refine E_iinc (pc := 50) O (1 : Int32) [some (.ref x0), some (.int x1), some (.int (x2 + (1 : Int32)))] dX4_goesIn_50 rfl (by decide) rfl (by decide) rfl ?_
  refine E_goto (pc := 53) O 18 dX4_goesIn_53 (by decide) ?_
  exact hr18 h2 x0 x1 (x2 + (1 : Int32)) hf
set_option maxHeartbeats 4000000 in
set_option maxRecDepth 100000 in
theorem t_b_X4_goesIn_18 {K : Cx} {fr : Bool} {out : (Int32 × MH)} (O : Ok K yX4_goesIn.cls cX4_goesIn 3 (rmm 7 155 0 0)) (Z : Out K (some .int) fr (some (.int out.1)) out.2) (rec18 : MH → Nat → Int32 → Int32 → Option (Int32 × MH)) (hr18 : ∀ (h : MH) (x0 : Nat) (x1 : Int32) (x2 : Int32), rec18 h x0 x1 x2 = some out → EE K (fr, 0, 0) 18 [some (.ref x0), some (.int x1), some (.int x2)] [] h) (h : MH) (x0 : Nat) (x1 : Int32) (x2 : Int32) (hf : b_X4_goesIn_18 rec18 h x0 x1 x2 = some out) : EE K (fr, 0, 0) 18 [some (.ref x0), some (.int x1), some (.int x2)] [] h := by
  unfold b_X4_goesIn_18 at hf
  refine E_iload_n (pc := 18) O 2 dX4_goesIn_18 rfl rfl ?_
  refine E_sipush (pc := 19) O (1000 : Int32) dX4_goesIn_19 (by decide) ?_
  refine E_icmp_gt (pc := 22) O 56 dX4_goesIn_22 (by decide) hf (fun hf => ?_) (fun hf => ?_)
  · exact E_sub (L' := [some (.ref x0), none, some (.int x2)]) (And.intro rfl (And.intro rfl True.intro)) (t_b_X4_goesIn_56 O Z h x0 x2 hf)
  · refine E_iload_n (pc := 25) O 1 dX4_goesIn_25 rfl rfl ?_
    refine E_if_eq (pc := 26) O 39 dX4_goesIn_26 (by decide) hf (fun hf => ?_) (fun hf => ?_)
    · refine E_aload_n (pc := 39) O 0 dX4_goesIn_39 rfl rfl ?_
      refine E_callV_iP (pc := 40) (S := []) O [] CV_RailSequenceModel_206 rfl (fun r e => t_X4_isAllGood e) dX4_goesIn_40 hf rfl ⟨(Nat.le_of_ble_eq_true rfl), (Nat.le_of_ble_eq_true rfl)⟩ ⟨(Nat.le_of_ble_eq_true rfl), (Nat.le_of_ble_eq_true rfl)⟩ (Nat.le_of_ble_eq_true rfl) (fun v3 hf => ?_)
      refine E_if_ne (pc := 43) O 56 dX4_goesIn_43 (by decide) hf (fun hf => ?_) (fun hf => ?_)
      · exact E_sub (L' := [some (.ref x0), none, some (.int x2)]) (And.intro rfl (And.intro rfl True.intro)) (t_b_X4_goesIn_56 O Z h x0 x2 hf)
      · exact t_b_X4_goesIn_46 O Z _ hr18 h x0 x1 x2 hf
    · refine E_aload_n (pc := 29) O 0 dX4_goesIn_29 rfl rfl ?_
      refine E_callV_iP (pc := 30) (S := []) O [] CV_RailSequenceModel_203 rfl (fun r e => t_X4_isAllOff e) dX4_goesIn_30 hf rfl ⟨(Nat.le_of_ble_eq_true rfl), (Nat.le_of_ble_eq_true rfl)⟩ ⟨(Nat.le_of_ble_eq_true rfl), (Nat.le_of_ble_eq_true rfl)⟩ (Nat.le_of_ble_eq_true rfl) (fun v4 hf => ?_)
      refine E_if_eq (pc := 33) O 46 dX4_goesIn_33 (by decide) hf (fun hf => ?_) (fun hf => ?_)
      · exact t_b_X4_goesIn_46 O Z _ hr18 h x0 x1 x2 hf
      · refine E_goto (pc := 36) O 56 dX4_goesIn_36 (by decide) ?_
        exact E_sub (L' := [some (.ref x0), none, some (.int x2)]) (And.intro rfl (And.intro rfl True.intro)) (t_b_X4_goesIn_56 O Z h x0 x2 hf)
theorem t_f_X4_goesIn_18 {K : Cx} {fr : Bool} {out : (Int32 × MH)} (O : Ok K yX4_goesIn.cls cX4_goesIn 3 (rmm 7 155 0 0)) (Z : Out K (some .int) fr (some (.int out.1)) out.2) : ∀ (n : Nat) (h : MH) (x0 : Nat) (x1 : Int32) (x2 : Int32), f_X4_goesIn_18 n h x0 x1 x2 = some out → EE K (fr, 0, 0) 18 [some (.ref x0), some (.int x1), some (.int x2)] [] h := by
  intro n
  induction n with
  | zero => intro h x0 x1 x2 hf; cases hf
  | succ n ih => intro h x0 x1 x2 hf; exact t_b_X4_goesIn_18 O Z _ ih h x0 x1 x2 hf
set_option maxHeartbeats 4000000 in
set_option maxRecDepth 100000 in
theorem t_b_X4_goesIn_16 {K : Cx} {fr : Bool} {out : (Int32 × MH)} (O : Ok K yX4_goesIn.cls cX4_goesIn 3 (rmm 7 155 0 0)) (Z : Out K (some .int) fr (some (.int out.1)) out.2) (h : MH) (x0 : Nat) (x1 : Int32) (hf : b_X4_goesIn_16 h x0 x1 = some out) : EE K (fr, 0, 0) 16 [some (.ref x0), some (.int x1), none] [] h := by
  unfold b_X4_goesIn_16 at hf
  refine E_iconst (pc := 16) O (0 : Int32) dX4_goesIn_16 (by decide) ?_
  refine E_istore_n (pc := 17) O 2 [some (.ref x0), some (.int x1), some (.int (0 : Int32))] dX4_goesIn_17 rfl (by decide) rfl rfl ?_
  exact t_f_X4_goesIn_18 O Z FU h x0 x1 (0 : Int32) hf
set_option maxHeartbeats 4000000 in
set_option maxRecDepth 100000 in
theorem t_X4_goesIn {g : Gx} {fr : Bool} {h : MH} {x0 x1} {out : (Int32 × MH)} (hf : f_X4_goesIn h x0 x1 = some out) : MM g yX4_goesIn cX4_goesIn 3 (some .int) 7 155 0 0 fr fr [.ref x0, .int x1] h (some (.int out.1)) out.2 := by
  unfold f_X4_goesIn at hf
  refine MM_of (L := [some (.ref x0), some (.int x1), none]) (by decide) (Nat.le_of_ble_eq_true rfl) rfl (fun K hK O Z hn => ?_)
  refine E_aload_n (pc := 0) O 0 dX4_goesIn_0 rfl rfl ?_
  refine E_callV_v (pc := 1) (S := []) O [] CV_RailSequenceModel_185 rfl (fun r e => t_X4_keepAside e) dX4_goesIn_1 hf rfl ⟨(Nat.le_of_ble_eq_true rfl), (Nat.le_of_ble_eq_true rfl)⟩ ⟨(Nat.le_of_ble_eq_true rfl), (Nat.le_of_ble_eq_true rfl)⟩ (Nat.le_of_ble_eq_true rfl) (fun h5 hf => ?_)
  refine E_iload_n (pc := 4) O 1 dX4_goesIn_4 rfl rfl ?_
  refine E_if_eq (pc := 5) O 16 dX4_goesIn_5 (by decide) hf (fun hf => ?_) (fun hf => ?_)
  · exact t_b_X4_goesIn_16 O Z h5 x0 x1 hf
  · refine E_aload_n (pc := 8) O 0 dX4_goesIn_8 rfl rfl ?_
    refine E_aload_n (pc := 9) O 0 dX4_goesIn_9 rfl rfl ?_
    refine E_callV_iP (pc := 10) (S := [.ref x0]) O [] CV_RailSequenceModel_200 rfl (fun r e => t_X4_allRails e) dX4_goesIn_10 hf rfl ⟨(Nat.le_of_ble_eq_true rfl), (Nat.le_of_ble_eq_true rfl)⟩ ⟨(Nat.le_of_ble_eq_true rfl), (Nat.le_of_ble_eq_true rfl)⟩ (Nat.le_of_ble_eq_true rfl) (fun v6 hf => ?_)
    refine E_callV_v (pc := 13) (S := []) O [.int v6] CV_RailSequenceModel_126 rfl (fun r e => t_X4_unwant e) dX4_goesIn_13 hf rfl ⟨(Nat.le_of_ble_eq_true rfl), (Nat.le_of_ble_eq_true rfl)⟩ ⟨(Nat.le_of_ble_eq_true rfl), (Nat.le_of_ble_eq_true rfl)⟩ (Nat.le_of_ble_eq_true rfl) (fun h7 hf => ?_)
    exact t_b_X4_goesIn_16 O Z h7 x0 x1 hf
set_option maxHeartbeats 4000000 in
set_option maxRecDepth 100000 in
theorem t_X4_allGoodIn {g : Gx} {fr : Bool} {h : MH} {x0} {out : (Int32 × MH)} (hf : f_X4_allGoodIn h x0 = some out) : MM g yX4_allGoodIn cX4_allGoodIn 1 (some .int) 8 177 0 0 fr fr [.ref x0] h (some (.int out.1)) out.2 := by
  unfold f_X4_allGoodIn at hf
  refine MM_of (L := [some (.ref x0)]) (by decide) (Nat.le_of_ble_eq_true rfl) rfl (fun K hK O Z hn => ?_)
  refine E_aload_n (pc := 0) O 0 dX4_allGoodIn_0 rfl rfl ?_
  refine E_iconst (pc := 1) O (0 : Int32) dX4_allGoodIn_1 (by decide) ?_
  refine E_put (pc := 2) O FN_RailSequenceModel_28 rfl rfl dX4_allGoodIn_2 hf (fun h1 hf => ?_)
  refine E_aload_n (pc := 5) O 0 dX4_allGoodIn_5 rfl rfl ?_
  refine E_iconst (pc := 6) O (0 : Int32) dX4_allGoodIn_6 (by decide) ?_
  refine E_callV_i (pc := 7) (S := []) O [.int (0 : Int32)] CV_RailSequenceModel_209 rfl (fun r e => t_X4_goesIn e) dX4_allGoodIn_7 hf rfl ⟨(Nat.le_of_ble_eq_true rfl), (Nat.le_of_ble_eq_true rfl)⟩ ⟨(Nat.le_of_ble_eq_true rfl), (Nat.le_of_ble_eq_true rfl)⟩ (Nat.le_of_ble_eq_true rfl) (fun p2 hf => ?_)
  exact E_iret (pc := 10) O Z hf ⟨(Nat.le_of_ble_eq_true rfl), (Nat.le_of_ble_eq_true rfl)⟩ dX4_allGoodIn_10
set_option maxHeartbeats 4000000 in
set_option maxRecDepth 100000 in
theorem t_X4_allOffIn {g : Gx} {fr : Bool} {h : MH} {x0} {out : (Int32 × MH)} (hf : f_X4_allOffIn h x0 = some out) : MM g yX4_allOffIn cX4_allOffIn 1 (some .int) 8 177 0 0 fr fr [.ref x0] h (some (.int out.1)) out.2 := by
  unfold f_X4_allOffIn at hf
  refine MM_of (L := [some (.ref x0)]) (by decide) (Nat.le_of_ble_eq_true rfl) rfl (fun K hK O Z hn => ?_)
  refine E_aload_n (pc := 0) O 0 dX4_allOffIn_0 rfl rfl ?_
  refine E_iconst (pc := 1) O (0 : Int32) dX4_allOffIn_1 (by decide) ?_
  refine E_put (pc := 2) O FN_RailSequenceModel_28 rfl rfl dX4_allOffIn_2 hf (fun h1 hf => ?_)
  refine E_aload_n (pc := 5) O 0 dX4_allOffIn_5 rfl rfl ?_
  refine E_iconst (pc := 6) O (1 : Int32) dX4_allOffIn_6 (by decide) ?_
  refine E_callV_i (pc := 7) (S := []) O [.int (1 : Int32)] CV_RailSequenceModel_209 rfl (fun r e => t_X4_goesIn e) dX4_allOffIn_7 hf rfl ⟨(Nat.le_of_ble_eq_true rfl), (Nat.le_of_ble_eq_true rfl)⟩ ⟨(Nat.le_of_ble_eq_true rfl), (Nat.le_of_ble_eq_true rfl)⟩ (Nat.le_of_ble_eq_true rfl) (fun p2 hf => ?_)
  exact E_iret (pc := 10) O Z hf ⟨(Nat.le_of_ble_eq_true rfl), (Nat.le_of_ble_eq_true rfl)⟩ dX4_allOffIn_10
set_option maxHeartbeats 4000000 in
set_option maxRecDepth 100000 in
theorem t_b_X4_shortAnswer_64 {K : Cx} {fr : Bool} {out : (Int32 × MH)} (O : Ok K yX4_shortAnswer.cls cX4_shortAnswer 5 (rmm 7 155 0 0)) (Z : Out K (some .int) fr (some (.int out.1)) out.2) (h : MH) (x0 : Nat) (s0 : Int32) (hf : b_X4_shortAnswer_64 h x0 s0 = some out) : EE K (fr, 0, 0) 64 [some (.ref x0), none, none, none, none] [.int s0] h := by
  unfold b_X4_shortAnswer_64 at hf
  refine E_istore (pc := 64) O [some (.ref x0), none, none, none, some (.int s0)] dX4_shortAnswer_64 (by decide) rfl rfl ?_
  refine E_aload_n (pc := 66) O 0 dX4_shortAnswer_66 rfl rfl ?_
  refine E_callV_v (pc := 67) (S := []) O [] CV_RailSequenceModel_188 rfl (fun r e => t_X4_takeBack e) dX4_shortAnswer_67 hf rfl ⟨(Nat.le_of_ble_eq_true rfl), (Nat.le_of_ble_eq_true rfl)⟩ ⟨(Nat.le_of_ble_eq_true rfl), (Nat.le_of_ble_eq_true rfl)⟩ (Nat.le_of_ble_eq_true rfl) (fun h1 hf => ?_)
  refine E_iload (pc := 70) O dX4_shortAnswer_70 rfl ?_
  exact E_iret (pc := 72) O Z hf ⟨(Nat.le_of_ble_eq_true rfl), (Nat.le_of_ble_eq_true rfl)⟩ dX4_shortAnswer_72
set_option maxHeartbeats 4000000 in
set_option maxRecDepth 100000 in
theorem t_b_X4_shortAnswer_61 {K : Cx} {fr : Bool} {out : (Int32 × MH)} (O : Ok K yX4_shortAnswer.cls cX4_shortAnswer 5 (rmm 7 155 0 0)) (Z : Out K (some .int) fr (some (.int out.1)) out.2) (h : MH) (x0 : Nat) (s0 : Nat) (s1 : Int32) (s2 : Int32) (hf : b_X4_shortAnswer_61 h x0 s0 s1 s2 = some out) : EE K (fr, 0, 0) 61 [some (.ref x0), none, none, none, none] [.int s2, .int s1, .ref s0] h := by
  unfold b_X4_shortAnswer_61 at hf
  refine E_callV_iP (pc := 61) (S := []) O [.int s1, .int s2] CV_RailSequenceModel_123 rfl (fun r e => t_X4_maskOf e) dX4_shortAnswer_61 hf rfl ⟨(Nat.le_of_ble_eq_true rfl), (Nat.le_of_ble_eq_true rfl)⟩ ⟨(Nat.le_of_ble_eq_true rfl), (Nat.le_of_ble_eq_true rfl)⟩ (Nat.le_of_ble_eq_true rfl) (fun v2 hf => ?_)
  exact t_b_X4_shortAnswer_64 O Z h x0 v2 hf
set_option maxHeartbeats 4000000 in
set_option maxRecDepth 100000 in
theorem t_b_X4_shortAnswer_20 {K : Cx} {fr : Bool} {out : (Int32 × MH)} (O : Ok K yX4_shortAnswer.cls cX4_shortAnswer 5 (rmm 7 155 0 0)) (Z : Out K (some .int) fr (some (.int out.1)) out.2) (rec20 : MH → Nat → Int32 → Int32 → Option (Int32 × MH)) (hr20 : ∀ (h : MH) (x0 : Nat) (x3 : Int32) (x4 : Int32), rec20 h x0 x3 x4 = some out → EE K (fr, 0, 0) 20 [some (.ref x0), none, none, some (.int x3), some (.int x4)] [] h) (h : MH) (x0 : Nat) (x3 : Int32) (x4 : Int32) (hf : b_X4_shortAnswer_20 rec20 h x0 x3 x4 = some out) : EE K (fr, 0, 0) 20 [some (.ref x0), none, none, some (.int x3), some (.int x4)] [] h := by
  unfold b_X4_shortAnswer_20 at hf
  refine E_iload (pc := 20) O dX4_shortAnswer_20 rfl ?_
  refine E_bipush (pc := 22) O (100 : Int32) dX4_shortAnswer_22 (by decide) ?_
  refine E_icmp_ge (pc := 24) O 37 dX4_shortAnswer_24 (by decide) hf (fun hf => ?_) (fun hf => ?_)
  · refine E_iload_n (pc := 37) O 3 dX4_shortAnswer_37 rfl rfl ?_
    refine E_if_ne (pc := 38) O 48 dX4_shortAnswer_38 (by decide) hf (fun hf => ?_) (fun hf => ?_)
    · refine E_aload_n (pc := 48) O 0 dX4_shortAnswer_48 rfl rfl ?_
      refine E_bipush (pc := 49) O (9 : Int32) dX4_shortAnswer_49 (by decide) ?_
      refine E_iload_n (pc := 51) O 3 dX4_shortAnswer_51 rfl rfl ?_
      refine E_iconst (pc := 52) O (1 : Int32) dX4_shortAnswer_52 (by decide) ?_
      refine E_icmp_ne (pc := 53) O 60 dX4_shortAnswer_53 (by decide) hf (fun hf => ?_) (fun hf => ?_)
      · refine E_iconst (pc := 60) O (5 : Int32) dX4_shortAnswer_60 (by decide) ?_
        exact E_sub (L' := [some (.ref x0), none, none, none, none]) (And.intro rfl True.intro) (t_b_X4_shortAnswer_61 O Z h x0 x0 (9 : Int32) (5 : Int32) hf)
      · refine E_iconst (pc := 56) O (3 : Int32) dX4_shortAnswer_56 (by decide) ?_
        refine E_goto (pc := 57) O 61 dX4_shortAnswer_57 (by decide) ?_
        exact E_sub (L' := [some (.ref x0), none, none, none, none]) (And.intro rfl True.intro) (t_b_X4_shortAnswer_61 O Z h x0 x0 (9 : Int32) (3 : Int32) hf)
    · refine E_aload_n (pc := 41) O 0 dX4_shortAnswer_41 rfl rfl ?_
      refine E_getI (pc := 42) O FL_RailSequenceModel_47 dX4_shortAnswer_42 hf (fun v3 hf => ?_)
      refine E_goto (pc := 45) O 64 dX4_shortAnswer_45 (by decide) ?_
      exact E_sub (L' := [some (.ref x0), none, none, none, none]) (And.intro rfl True.intro) (t_b_X4_shortAnswer_64 O Z h x0 v3 hf)
  · refine E_aload_n (pc := 27) O 0 dX4_shortAnswer_27 rfl rfl ?_
    refine E_callV_v (pc := 28) (S := []) O [] CV_RailSequenceModel_132 rfl (fun r e => t_X4_pass e) dX4_shortAnswer_28 hf rfl ⟨(Nat.le_of_ble_eq_true rfl), (Nat.le_of_ble_eq_true rfl)⟩ ⟨(Nat.le_of_ble_eq_true rfl), (Nat.le_of_ble_eq_true rfl)⟩ (Nat.le_of_ble_eq_true rfl) (fun h4 hf => ?_)
    refine E_iinc (pc := 31) O (1 : Int32) [some (.ref x0), none, none, some (.int x3), some (.int (x4 + (1 : Int32)))] dX4_shortAnswer_31 rfl (by decide) rfl (by decide) rfl ?_
    refine E_goto (pc := 34) O 20 dX4_shortAnswer_34 (by decide) ?_
    exact hr20 h4 x0 x3 (x4 + (1 : Int32)) hf
theorem t_f_X4_shortAnswer_20 {K : Cx} {fr : Bool} {out : (Int32 × MH)} (O : Ok K yX4_shortAnswer.cls cX4_shortAnswer 5 (rmm 7 155 0 0)) (Z : Out K (some .int) fr (some (.int out.1)) out.2) : ∀ (n : Nat) (h : MH) (x0 : Nat) (x3 : Int32) (x4 : Int32), f_X4_shortAnswer_20 n h x0 x3 x4 = some out → EE K (fr, 0, 0) 20 [some (.ref x0), none, none, some (.int x3), some (.int x4)] [] h := by
  intro n
  induction n with
  | zero => intro h x0 x3 x4 hf; cases hf
  | succ n ih => intro h x0 x3 x4 hf; exact t_b_X4_shortAnswer_20 O Z _ ih h x0 x3 x4 hf
set_option maxHeartbeats 4000000 in
set_option maxRecDepth 100000 in
theorem t_X4_shortAnswer {g : Gx} {fr : Bool} {h : MH} {x0 x1 x2 x3} {out : (Int32 × MH)} (hf : f_X4_shortAnswer h x0 x1 x2 x3 = some out) : MM g yX4_shortAnswer cX4_shortAnswer 5 (some .int) 7 155 0 0 fr fr [.ref x0, .int x1, .int x2, .int x3] h (some (.int out.1)) out.2 := by
  unfold f_X4_shortAnswer at hf
  refine MM_of (L := [some (.ref x0), some (.int x1), some (.int x2), some (.int x3), none]) (by decide) (Nat.le_of_ble_eq_true rfl) rfl (fun K hK O Z hn => ?_)
  refine E_aload_n (pc := 0) O 0 dX4_shortAnswer_0 rfl rfl ?_
  refine E_callV_v (pc := 1) (S := []) O [] CV_RailSequenceModel_185 rfl (fun r e => t_X4_keepAside e) dX4_shortAnswer_1 hf rfl ⟨(Nat.le_of_ble_eq_true rfl), (Nat.le_of_ble_eq_true rfl)⟩ ⟨(Nat.le_of_ble_eq_true rfl), (Nat.le_of_ble_eq_true rfl)⟩ (Nat.le_of_ble_eq_true rfl) (fun h5 hf => ?_)
  refine E_aload_n (pc := 4) O 0 dX4_shortAnswer_4 rfl rfl ?_
  refine E_iload_n (pc := 5) O 1 dX4_shortAnswer_5 rfl rfl ?_
  refine E_bipush (pc := 6) O (12 : Int32) dX4_shortAnswer_6 (by decide) ?_
  refine E_iload_n (pc := 8) O 2 dX4_shortAnswer_8 rfl rfl ?_
  refine E_callV_v (pc := 9) (S := []) O [.int x1, .int (12 : Int32), .int x2] CV_RailSequenceModel_40 rfl (fun r e => t_X4_lay e) dX4_shortAnswer_9 hf rfl ⟨(Nat.le_of_ble_eq_true rfl), (Nat.le_of_ble_eq_true rfl)⟩ ⟨(Nat.le_of_ble_eq_true rfl), (Nat.le_of_ble_eq_true rfl)⟩ (Nat.le_of_ble_eq_true rfl) (fun h6 hf => ?_)
  refine E_aload_n (pc := 12) O 0 dX4_shortAnswer_12 rfl rfl ?_
  refine E_iconst (pc := 13) O (0 : Int32) dX4_shortAnswer_13 (by decide) ?_
  refine E_put (pc := 14) O FN_RailSequenceModel_47 rfl rfl dX4_shortAnswer_14 hf (fun h7 hf => ?_)
  refine E_iconst (pc := 17) O (0 : Int32) dX4_shortAnswer_17 (by decide) ?_
  refine E_istore (pc := 18) O [some (.ref x0), some (.int x1), some (.int x2), some (.int x3), some (.int (0 : Int32))] dX4_shortAnswer_18 (by decide) rfl rfl ?_
  exact E_sub (L' := [some (.ref x0), none, none, some (.int x3), some (.int (0 : Int32))]) (And.intro rfl (And.intro rfl (And.intro rfl True.intro))) (t_f_X4_shortAnswer_20 O Z FU h7 x0 x3 (0 : Int32) hf)
set_option maxHeartbeats 4000000 in
set_option maxRecDepth 100000 in
theorem t_b_X4_ifShort_59 {K : Cx} {fr : Bool} {out : (Int32 × MH)} (O : Ok K yX4_ifShort.cls cX4_ifShort 4 (rmm 8 179 0 0)) (Z : Out K (some .int) fr (some (.int out.1)) out.2) (h : MH) (s0 : Int32) (hf : b_X4_ifShort_59 h s0 = some out) : EE K (fr, 0, 0) 59 [none, none, none, none] [.int s0] h := by
  unfold b_X4_ifShort_59 at hf
  exact E_iret (pc := 59) O Z hf ⟨(Nat.le_of_ble_eq_true rfl), (Nat.le_of_ble_eq_true rfl)⟩ dX4_ifShort_59
set_option maxHeartbeats 4000000 in
set_option maxRecDepth 100000 in
theorem t_b_X4_ifShort_38 {K : Cx} {fr : Bool} {out : (Int32 × MH)} (O : Ok K yX4_ifShort.cls cX4_ifShort 4 (rmm 8 179 0 0)) (Z : Out K (some .int) fr (some (.int out.1)) out.2) (h : MH) (x0 : Nat) (x1 : Int32) (x2 : Int32) (x3 : Int32) (s0 : Nat) (s1 : Int32) (hf : b_X4_ifShort_38 h x0 x1 x2 x3 s0 s1 = some out) : EE K (fr, 0, 0) 38 [some (.ref x0), some (.int x1), some (.int x2), some (.int x3)] [.int s1, .ref s0] h := by
  unfold b_X4_ifShort_38 at hf
  refine E_put (pc := 38) O FN_RailSequenceModel_28 rfl rfl dX4_ifShort_38 hf (fun h1 hf => ?_)
  refine E_aload_n (pc := 41) O 0 dX4_ifShort_41 rfl rfl ?_
  refine E_getI (pc := 42) O FL_RailSequenceModel_28 dX4_ifShort_42 hf (fun v2 hf => ?_)
  refine E_if_le (pc := 45) O 52 dX4_ifShort_45 (by decide) hf (fun hf => ?_) (fun hf => ?_)
  · refine E_aload_n (pc := 52) O 0 dX4_ifShort_52 rfl rfl ?_
    refine E_iload_n (pc := 53) O 1 dX4_ifShort_53 rfl rfl ?_
    refine E_iload_n (pc := 54) O 2 dX4_ifShort_54 rfl rfl ?_
    refine E_iload_n (pc := 55) O 3 dX4_ifShort_55 rfl rfl ?_
    refine E_callV_i (pc := 56) (S := []) O [.int x1, .int x2, .int x3] CV_RailSequenceModel_213 rfl (fun r e => t_X4_shortAnswer e) dX4_ifShort_56 hf rfl ⟨(Nat.le_of_ble_eq_true rfl), (Nat.le_of_ble_eq_true rfl)⟩ ⟨(Nat.le_of_ble_eq_true rfl), (Nat.le_of_ble_eq_true rfl)⟩ (Nat.le_of_ble_eq_true rfl) (fun p3 hf => ?_)
    exact E_sub (L' := [none, none, none, none]) True.intro (t_b_X4_ifShort_59 O Z p3.2 p3.1 hf)
  · refine E_iconst (pc := 48) O (0 : Int32) dX4_ifShort_48 (by decide) ?_
    refine E_goto (pc := 49) O 59 dX4_ifShort_49 (by decide) ?_
    exact E_sub (L' := [none, none, none, none]) True.intro (t_b_X4_ifShort_59 O Z h1 (0 : Int32) hf)
set_option maxHeartbeats 4000000 in
set_option maxRecDepth 100000 in
theorem t_b_X4_ifShort_37 {K : Cx} {fr : Bool} {out : (Int32 × MH)} (O : Ok K yX4_ifShort.cls cX4_ifShort 4 (rmm 8 179 0 0)) (Z : Out K (some .int) fr (some (.int out.1)) out.2) (h : MH) (x0 : Nat) (x1 : Int32) (x2 : Int32) (x3 : Int32) (s0 : Nat) (hf : b_X4_ifShort_37 h x0 x1 x2 x3 s0 = some out) : EE K (fr, 0, 0) 37 [some (.ref x0), some (.int x1), some (.int x2), some (.int x3)] [.ref s0] h := by
  unfold b_X4_ifShort_37 at hf
  refine E_iconst (pc := 37) O (2 : Int32) dX4_ifShort_37 (by decide) ?_
  exact t_b_X4_ifShort_38 O Z h x0 x1 x2 x3 s0 (2 : Int32) hf
set_option maxHeartbeats 4000000 in
set_option maxRecDepth 100000 in
theorem t_X4_ifShort {g : Gx} {fr : Bool} {h : MH} {x0 x1 x2 x3} {out : (Int32 × MH)} (hf : f_X4_ifShort h x0 x1 x2 x3 = some out) : MM g yX4_ifShort cX4_ifShort 4 (some .int) 8 179 0 0 fr fr [.ref x0, .int x1, .int x2, .int x3] h (some (.int out.1)) out.2 := by
  unfold f_X4_ifShort at hf
  refine MM_of (L := [some (.ref x0), some (.int x1), some (.int x2), some (.int x3)]) (by decide) (Nat.le_of_ble_eq_true rfl) rfl (fun K hK O Z hn => ?_)
  refine E_aload_n (pc := 0) O 0 dX4_ifShort_0 rfl rfl ?_
  refine E_aload_n (pc := 1) O 0 dX4_ifShort_1 rfl rfl ?_
  refine E_iload_n (pc := 2) O 1 dX4_ifShort_2 rfl rfl ?_
  refine E_callV_iP (pc := 3) (S := [.ref x0]) O [.int x1] CV_RailSequenceModel_117 rfl (fun r e => t_X4_isRail e) dX4_ifShort_3 hf rfl ⟨(Nat.le_of_ble_eq_true rfl), (Nat.le_of_ble_eq_true rfl)⟩ ⟨(Nat.le_of_ble_eq_true rfl), (Nat.le_of_ble_eq_true rfl)⟩ (Nat.le_of_ble_eq_true rfl) (fun v4 hf => ?_)
  refine E_if_ne (pc := 6) O 13 dX4_ifShort_6 (by decide) hf (fun hf => ?_) (fun hf => ?_)
  · refine E_iload_n (pc := 13) O 2 dX4_ifShort_13 rfl rfl ?_
    refine E_iconst (pc := 14) O (1 : Int32) dX4_ifShort_14 (by decide) ?_
    refine E_sipush (pc := 15) O (500 : Int32) dX4_ifShort_15 (by decide) ?_
    refine E_callS_iP (pc := 18) (S := [.ref x0]) O [.int x2, .int (1 : Int32), .int (500 : Int32)] CS_RailSequenceModel_32 (fun r e => t_X4_within e) dX4_ifShort_18 hf rfl ⟨(Nat.le_of_ble_eq_true rfl), (Nat.le_of_ble_eq_true rfl)⟩ ⟨(Nat.le_of_ble_eq_true rfl), (Nat.le_of_ble_eq_true rfl)⟩ (Nat.le_of_ble_eq_true rfl) (fun v5 hf => ?_)
    refine E_if_eq (pc := 21) O 37 dX4_ifShort_21 (by decide) hf (fun hf => ?_) (fun hf => ?_)
    · exact t_b_X4_ifShort_37 O Z h x0 x1 x2 x3 x0 hf
    · refine E_iload_n (pc := 24) O 3 dX4_ifShort_24 rfl rfl ?_
      refine E_iconst (pc := 25) O (0 : Int32) dX4_ifShort_25 (by decide) ?_
      refine E_iconst (pc := 26) O (2 : Int32) dX4_ifShort_26 (by decide) ?_
      refine E_callS_iP (pc := 27) (S := [.ref x0]) O [.int x3, .int (0 : Int32), .int (2 : Int32)] CS_RailSequenceModel_32 (fun r e => t_X4_within e) dX4_ifShort_27 hf rfl ⟨(Nat.le_of_ble_eq_true rfl), (Nat.le_of_ble_eq_true rfl)⟩ ⟨(Nat.le_of_ble_eq_true rfl), (Nat.le_of_ble_eq_true rfl)⟩ (Nat.le_of_ble_eq_true rfl) (fun v6 hf => ?_)
      refine E_if_eq (pc := 30) O 37 dX4_ifShort_30 (by decide) hf (fun hf => ?_) (fun hf => ?_)
      · exact t_b_X4_ifShort_37 O Z h x0 x1 x2 x3 x0 hf
      · refine E_iconst (pc := 33) O (0 : Int32) dX4_ifShort_33 (by decide) ?_
        refine E_goto (pc := 34) O 38 dX4_ifShort_34 (by decide) ?_
        exact t_b_X4_ifShort_38 O Z h x0 x1 x2 x3 x0 (0 : Int32) hf
  · refine E_iconst (pc := 9) O (1 : Int32) dX4_ifShort_9 (by decide) ?_
    refine E_goto (pc := 10) O 38 dX4_ifShort_10 (by decide) ?_
    exact t_b_X4_ifShort_38 O Z h x0 x1 x2 x3 x0 (1 : Int32) hf
set_option maxHeartbeats 4000000 in
set_option maxRecDepth 100000 in
theorem t_b_X4_patienceFor_4 {K : Cx} {fr : Bool} {out : Int32} {h : MH} (O : Ok K yX4_patienceFor.cls cX4_patienceFor 4 (rmm 1 23 0 0)) (Z : Out K (some .int) fr (some (.int out)) h) (rec4 : Nat → Int32 → Int32 → Int32 → Option Int32) (hr4 : ∀ (x0 : Nat) (x1 : Int32) (x2 : Int32) (x3 : Int32), rec4 x0 x1 x2 x3 = some out → EE K (fr, 0, 0) 4 [some (.ref x0), some (.int x1), some (.int x2), some (.int x3)] [] h) (x0 : Nat) (x1 : Int32) (x2 : Int32) (x3 : Int32) (hf : b_X4_patienceFor_4 h rec4 x0 x1 x2 x3 = some out) : EE K (fr, 0, 0) 4 [some (.ref x0), some (.int x1), some (.int x2), some (.int x3)] [] h := by
  unfold b_X4_patienceFor_4 at hf
  refine E_iload_n (pc := 4) O 3 dX4_patienceFor_4 rfl rfl ?_
  refine E_sipush (pc := 5) O (200 : Int32) dX4_patienceFor_5 (by decide) ?_
  refine E_icmp_gt (pc := 8) O 56 dX4_patienceFor_8 (by decide) hf (fun hf => ?_) (fun hf => ?_)
  · refine E_iconst (pc := 56) O (-1 : Int32) dX4_patienceFor_56 (by decide) ?_
    exact E_iretP (pc := 57) O Z hf ⟨(Nat.le_of_ble_eq_true rfl), (Nat.le_of_ble_eq_true rfl)⟩ dX4_patienceFor_57
  · refine E_iload_n (pc := 11) O 2 dX4_patienceFor_11 rfl rfl ?_
    refine E_aload_n (pc := 12) O 0 dX4_patienceFor_12 rfl rfl ?_
    refine E_iload_n (pc := 13) O 1 dX4_patienceFor_13 rfl rfl ?_
    refine E_iconst (pc := 14) O (0 : Int32) dX4_patienceFor_14 (by decide) ?_
    refine E_callV_iP (pc := 15) (S := [.int x2]) O [.int x1, .int (0 : Int32)] CV_RailSequenceModel_36 rfl (fun r e => t_X4_of e) dX4_patienceFor_15 hf rfl ⟨(Nat.le_of_ble_eq_true rfl), (Nat.le_of_ble_eq_true rfl)⟩ ⟨(Nat.le_of_ble_eq_true rfl), (Nat.le_of_ble_eq_true rfl)⟩ (Nat.le_of_ble_eq_true rfl) (fun v1 hf => ?_)
    refine E_aload_n (pc := 18) O 0 dX4_patienceFor_18 rfl rfl ?_
    refine E_iload_n (pc := 19) O 1 dX4_patienceFor_19 rfl rfl ?_
    refine E_iconst (pc := 20) O (1 : Int32) dX4_patienceFor_20 (by decide) ?_
    refine E_callV_iP (pc := 21) (S := [.int v1, .int x2]) O [.int x1, .int (1 : Int32)] CV_RailSequenceModel_36 rfl (fun r e => t_X4_of e) dX4_patienceFor_21 hf rfl ⟨(Nat.le_of_ble_eq_true rfl), (Nat.le_of_ble_eq_true rfl)⟩ ⟨(Nat.le_of_ble_eq_true rfl), (Nat.le_of_ble_eq_true rfl)⟩ (Nat.le_of_ble_eq_true rfl) (fun v2 hf => ?_)
    refine E_callS_iP (pc := 24) (S := []) O [.int x2, .int v1, .int v2] CS_RailSequenceModel_57 (fun r e => t_X4_towards e) dX4_patienceFor_24 hf rfl ⟨(Nat.le_of_ble_eq_true rfl), (Nat.le_of_ble_eq_true rfl)⟩ ⟨(Nat.le_of_ble_eq_true rfl), (Nat.le_of_ble_eq_true rfl)⟩ (Nat.le_of_ble_eq_true rfl) (fun v3 hf => ?_)
    refine E_istore_n (pc := 27) O 2 [some (.ref x0), some (.int x1), some (.int v3), some (.int x3)] dX4_patienceFor_27 rfl (by decide) rfl rfl ?_
    refine E_iload_n (pc := 28) O 2 dX4_patienceFor_28 rfl rfl ?_
    refine E_bipush (pc := 29) O (100 : Int32) dX4_patienceFor_29 (by decide) ?_
    refine E_imul (pc := 31) O dX4_patienceFor_31 ?_
    refine E_aload_n (pc := 32) O 0 dX4_patienceFor_32 rfl rfl ?_
    refine E_iload_n (pc := 33) O 1 dX4_patienceFor_33 rfl rfl ?_
    refine E_iconst (pc := 34) O (0 : Int32) dX4_patienceFor_34 (by decide) ?_
    refine E_callV_iP (pc := 35) (S := [.int (v3 * (100 : Int32))]) O [.int x1, .int (0 : Int32)] CV_RailSequenceModel_36 rfl (fun r e => t_X4_of e) dX4_patienceFor_35 hf rfl ⟨(Nat.le_of_ble_eq_true rfl), (Nat.le_of_ble_eq_true rfl)⟩ ⟨(Nat.le_of_ble_eq_true rfl), (Nat.le_of_ble_eq_true rfl)⟩ (Nat.le_of_ble_eq_true rfl) (fun v4 hf => ?_)
    refine E_aload_n (pc := 38) O 0 dX4_patienceFor_38 rfl rfl ?_
    refine E_iload_n (pc := 39) O 1 dX4_patienceFor_39 rfl rfl ?_
    refine E_iconst (pc := 40) O (3 : Int32) dX4_patienceFor_40 (by decide) ?_
    refine E_callV_iP (pc := 41) (S := [.int v4, .int (v3 * (100 : Int32))]) O [.int x1, .int (3 : Int32)] CV_RailSequenceModel_36 rfl (fun r e => t_X4_of e) dX4_patienceFor_41 hf rfl ⟨(Nat.le_of_ble_eq_true rfl), (Nat.le_of_ble_eq_true rfl)⟩ ⟨(Nat.le_of_ble_eq_true rfl), (Nat.le_of_ble_eq_true rfl)⟩ (Nat.le_of_ble_eq_true rfl) (fun v5 hf => ?_)
    refine E_imul (pc := 44) O dX4_patienceFor_44 ?_
    refine E_icmp_lt (pc := 45) O 50 dX4_patienceFor_45 (by decide) hf (fun hf => ?_) (fun hf => ?_)
    · refine E_iinc (pc := 50) O (1 : Int32) [some (.ref x0), some (.int x1), some (.int v3), some (.int (x3 + (1 : Int32)))] dX4_patienceFor_50 rfl (by decide) rfl (by decide) rfl ?_
      refine E_goto (pc := 53) O 4 dX4_patienceFor_53 (by decide) ?_
      exact hr4 x0 x1 v3 (x3 + (1 : Int32)) hf
    · refine E_iload_n (pc := 48) O 3 dX4_patienceFor_48 rfl rfl ?_
      exact E_iretP (pc := 49) O Z hf ⟨(Nat.le_of_ble_eq_true rfl), (Nat.le_of_ble_eq_true rfl)⟩ dX4_patienceFor_49
theorem t_f_X4_patienceFor_4 {K : Cx} {fr : Bool} {out : Int32} {h : MH} (O : Ok K yX4_patienceFor.cls cX4_patienceFor 4 (rmm 1 23 0 0)) (Z : Out K (some .int) fr (some (.int out)) h) : ∀ (n : Nat) (x0 : Nat) (x1 : Int32) (x2 : Int32) (x3 : Int32), f_X4_patienceFor_4 h n x0 x1 x2 x3 = some out → EE K (fr, 0, 0) 4 [some (.ref x0), some (.int x1), some (.int x2), some (.int x3)] [] h := by
  intro n
  induction n with
  | zero => intro x0 x1 x2 x3 hf; cases hf
  | succ n ih => intro x0 x1 x2 x3 hf; exact t_b_X4_patienceFor_4 O Z _ ih x0 x1 x2 x3 hf
set_option maxHeartbeats 4000000 in
set_option maxRecDepth 100000 in
theorem t_X4_patienceFor {g : Gx} {fr : Bool} {h : MH} {x0 x1} {out : Int32} (hf : f_X4_patienceFor h x0 x1 = some out) : MM g yX4_patienceFor cX4_patienceFor 4 (some .int) 1 23 0 0 fr fr [.ref x0, .int x1] h (some (.int out)) h := by
  unfold f_X4_patienceFor at hf
  refine MM_of (L := [some (.ref x0), some (.int x1), none, none]) (by decide) (Nat.le_of_ble_eq_true rfl) rfl (fun K hK O Z hn => ?_)
  refine E_iconst (pc := 0) O (0 : Int32) dX4_patienceFor_0 (by decide) ?_
  refine E_istore_n (pc := 1) O 2 [some (.ref x0), some (.int x1), some (.int (0 : Int32)), none] dX4_patienceFor_1 rfl (by decide) rfl rfl ?_
  refine E_iconst (pc := 2) O (1 : Int32) dX4_patienceFor_2 (by decide) ?_
  refine E_istore_n (pc := 3) O 3 [some (.ref x0), some (.int x1), some (.int (0 : Int32)), some (.int (1 : Int32))] dX4_patienceFor_3 rfl (by decide) rfl rfl ?_
  exact t_f_X4_patienceFor_4 O Z FU x0 x1 (0 : Int32) (1 : Int32) hf
set_option maxHeartbeats 4000000 in
set_option maxRecDepth 100000 in
theorem t_b_X4_leastPatience_33 {K : Cx} {fr : Bool} {out : (Int32 × MH)} (O : Ok K yX4_leastPatience.cls cX4_leastPatience 2 (rmm 2 46 0 0)) (Z : Out K (some .int) fr (some (.int out.1)) out.2) (h : MH) (s0 : Int32) (hf : b_X4_leastPatience_33 h s0 = some out) : EE K (fr, 0, 0) 33 [none, none] [.int s0] h := by
  unfold b_X4_leastPatience_33 at hf
  exact E_iret (pc := 33) O Z hf ⟨(Nat.le_of_ble_eq_true rfl), (Nat.le_of_ble_eq_true rfl)⟩ dX4_leastPatience_33
set_option maxHeartbeats 4000000 in
set_option maxRecDepth 100000 in
theorem t_b_X4_leastPatience_14 {K : Cx} {fr : Bool} {out : (Int32 × MH)} (O : Ok K yX4_leastPatience.cls cX4_leastPatience 2 (rmm 2 46 0 0)) (Z : Out K (some .int) fr (some (.int out.1)) out.2) (h : MH) (x0 : Nat) (x1 : Int32) (s0 : Nat) (s1 : Int32) (hf : b_X4_leastPatience_14 h x0 x1 s0 s1 = some out) : EE K (fr, 0, 0) 14 [some (.ref x0), some (.int x1)] [.int s1, .ref s0] h := by
  unfold b_X4_leastPatience_14 at hf
  refine E_put (pc := 14) O FN_RailSequenceModel_28 rfl rfl dX4_leastPatience_14 hf (fun h1 hf => ?_)
  refine E_aload_n (pc := 17) O 0 dX4_leastPatience_17 rfl rfl ?_
  refine E_getI (pc := 18) O FL_RailSequenceModel_28 dX4_leastPatience_18 hf (fun v2 hf => ?_)
  refine E_if_le (pc := 21) O 28 dX4_leastPatience_21 (by decide) hf (fun hf => ?_) (fun hf => ?_)
  · refine E_aload_n (pc := 28) O 0 dX4_leastPatience_28 rfl rfl ?_
    refine E_iload_n (pc := 29) O 1 dX4_leastPatience_29 rfl rfl ?_
    refine E_callV_iP (pc := 30) (S := []) O [.int x1] CV_RailSequenceModel_216 rfl (fun r e => t_X4_patienceFor e) dX4_leastPatience_30 hf rfl ⟨(Nat.le_of_ble_eq_true rfl), (Nat.le_of_ble_eq_true rfl)⟩ ⟨(Nat.le_of_ble_eq_true rfl), (Nat.le_of_ble_eq_true rfl)⟩ (Nat.le_of_ble_eq_true rfl) (fun v3 hf => ?_)
    exact E_sub (L' := [none, none]) True.intro (t_b_X4_leastPatience_33 O Z h1 v3 hf)
  · refine E_iconst (pc := 24) O (0 : Int32) dX4_leastPatience_24 (by decide) ?_
    refine E_goto (pc := 25) O 33 dX4_leastPatience_25 (by decide) ?_
    exact E_sub (L' := [none, none]) True.intro (t_b_X4_leastPatience_33 O Z h1 (0 : Int32) hf)
set_option maxHeartbeats 4000000 in
set_option maxRecDepth 100000 in
theorem t_X4_leastPatience {g : Gx} {fr : Bool} {h : MH} {x0 x1} {out : (Int32 × MH)} (hf : f_X4_leastPatience h x0 x1 = some out) : MM g yX4_leastPatience cX4_leastPatience 2 (some .int) 2 46 0 0 fr fr [.ref x0, .int x1] h (some (.int out.1)) out.2 := by
  unfold f_X4_leastPatience at hf
  refine MM_of (L := [some (.ref x0), some (.int x1)]) (by decide) (Nat.le_of_ble_eq_true rfl) rfl (fun K hK O Z hn => ?_)
  refine E_aload_n (pc := 0) O 0 dX4_leastPatience_0 rfl rfl ?_
  refine E_aload_n (pc := 1) O 0 dX4_leastPatience_1 rfl rfl ?_
  refine E_iload_n (pc := 2) O 1 dX4_leastPatience_2 rfl rfl ?_
  refine E_callV_iP (pc := 3) (S := [.ref x0]) O [.int x1] CV_RailSequenceModel_117 rfl (fun r e => t_X4_isRail e) dX4_leastPatience_3 hf rfl ⟨(Nat.le_of_ble_eq_true rfl), (Nat.le_of_ble_eq_true rfl)⟩ ⟨(Nat.le_of_ble_eq_true rfl), (Nat.le_of_ble_eq_true rfl)⟩ (Nat.le_of_ble_eq_true rfl) (fun v4 hf => ?_)
  refine E_if_eq (pc := 6) O 13 dX4_leastPatience_6 (by decide) hf (fun hf => ?_) (fun hf => ?_)
  · refine E_iconst (pc := 13) O (1 : Int32) dX4_leastPatience_13 (by decide) ?_
    exact t_b_X4_leastPatience_14 O Z h x0 x1 x0 (1 : Int32) hf
  · refine E_iconst (pc := 9) O (0 : Int32) dX4_leastPatience_9 (by decide) ?_
    refine E_goto (pc := 10) O 14 dX4_leastPatience_10 (by decide) ?_
    exact t_b_X4_leastPatience_14 O Z h x0 x1 x0 (0 : Int32) hf
set_option maxHeartbeats 4000000 in
set_option maxRecDepth 100000 in
theorem t_b_X4_shareNow_59 {K : Cx} {fr : Bool} {out : UInt64} {h : MH} (O : Ok K yX4_shareNow.cls cX4_shareNow 3 (rmm 1 22 0 0)) (Z : Out K (some .double) fr (some (.double out)) h) (s0 : UInt64) (hf : b_X4_shareNow_59 h s0 = some out) : EE K (fr, 0, 0) 59 [none, none, none] [.double s0] h := by
  unfold b_X4_shareNow_59 at hf
  exact E_dretP (pc := 59) O Z hf ⟨(Nat.le_of_ble_eq_true rfl), (Nat.le_of_ble_eq_true rfl)⟩ dX4_shareNow_59
set_option maxHeartbeats 4000000 in
set_option maxRecDepth 100000 in
theorem t_b_X4_shareNow_4 {K : Cx} {fr : Bool} {out : UInt64} {h : MH} (O : Ok K yX4_shareNow.cls cX4_shareNow 3 (rmm 1 22 0 0)) (Z : Out K (some .double) fr (some (.double out)) h) (rec4 : Nat → Int32 → Int32 → Option UInt64) (hr4 : ∀ (x0 : Nat) (x1 : Int32) (x2 : Int32), rec4 x0 x1 x2 = some out → EE K (fr, 0, 0) 4 [some (.ref x0), some (.int x1), some (.int x2)] [] h) (x0 : Nat) (x1 : Int32) (x2 : Int32) (hf : b_X4_shareNow_4 h rec4 x0 x1 x2 = some out) : EE K (fr, 0, 0) 4 [some (.ref x0), some (.int x1), some (.int x2)] [] h := by
  unfold b_X4_shareNow_4 at hf
  refine E_iload_n (pc := 4) O 2 dX4_shareNow_4 rfl rfl ?_
  refine E_aload_n (pc := 5) O 0 dX4_shareNow_5 rfl rfl ?_
  refine E_getR (pc := 6) O FL_RailSequenceModel_7 dX4_shareNow_6 hf (fun v1 hf => ?_)
  refine E_iconst (pc := 9) O (0 : Int32) dX4_shareNow_9 (by decide) ?_
  refine E_iaload (pc := 10) O dX4_shareNow_10 hf (fun v2 hf => ?_)
  refine E_icmp_ge (pc := 11) O 30 dX4_shareNow_11 (by decide) hf (fun hf => ?_) (fun hf => ?_)
  · refine E_aload_n (pc := 30) O 0 dX4_shareNow_30 rfl rfl ?_
    refine E_getR (pc := 31) O FL_RailSequenceModel_7 dX4_shareNow_31 hf (fun v3 hf => ?_)
    refine E_iconst (pc := 34) O (2 : Int32) dX4_shareNow_34 (by decide) ?_
    refine E_iaload (pc := 35) O dX4_shareNow_35 hf (fun v4 hf => ?_)
    refine E_aload_n (pc := 36) O 0 dX4_shareNow_36 rfl rfl ?_
    refine E_getR (pc := 37) O FL_RailSequenceModel_7 dX4_shareNow_37 hf (fun v5 hf => ?_)
    refine E_iconst (pc := 40) O (0 : Int32) dX4_shareNow_40 (by decide) ?_
    refine E_iaload (pc := 41) O dX4_shareNow_41 hf (fun v6 hf => ?_)
    refine E_imul (pc := 42) O dX4_shareNow_42 ?_
    obtain ⟨v7, ev7, hf⟩ := ob hf
    have ev7 := os ev7
    rw [ev7]
    refine E_istore_n (pc := 43) O 2 [some (.ref x0), some (.int x1), some (.int v7)] dX4_shareNow_43 rfl (by decide) rfl rfl ?_
    refine E_iload_n (pc := 44) O 2 dX4_shareNow_44 rfl rfl ?_
    refine E_if_ne (pc := 45) O 52 dX4_shareNow_45 (by decide) hf (fun hf => ?_) (fun hf => ?_)
    · refine E_dconst1 (pc := 52) O dX4_shareNow_52 ?_
      refine E_iload_n (pc := 53) O 1 dX4_shareNow_53 rfl rfl ?_
      refine E_i2d (pc := 54) O dX4_shareNow_54 ?_
      refine E_dmul (pc := 55) O dX4_shareNow_55 hf (fun v8 hf => ?_)
      refine E_iload_n (pc := 56) O 2 dX4_shareNow_56 rfl rfl ?_
      refine E_i2d (pc := 57) O dX4_shareNow_57 ?_
      refine E_ddiv (pc := 58) O dX4_shareNow_58 hf (fun v9 hf => ?_)
      exact E_sub (L' := [none, none, none]) True.intro (t_b_X4_shareNow_59 O Z v9 hf)
    · refine E_dconst0 (pc := 48) O dX4_shareNow_48 ?_
      refine E_goto (pc := 49) O 59 dX4_shareNow_49 (by decide) ?_
      exact E_sub (L' := [none, none, none]) True.intro (t_b_X4_shareNow_59 O Z (0 : UInt64) hf)
  · refine E_iload_n (pc := 14) O 1 dX4_shareNow_14 rfl rfl ?_
    refine E_aload_n (pc := 15) O 0 dX4_shareNow_15 rfl rfl ?_
    refine E_iload_n (pc := 16) O 2 dX4_shareNow_16 rfl rfl ?_
    refine E_bipush (pc := 17) O (19 : Int32) dX4_shareNow_17 (by decide) ?_
    refine E_callV_iP (pc := 19) (S := [.int x1]) O [.int x2, .int (19 : Int32)] CV_RailSequenceModel_36 rfl (fun r e => t_X4_of e) dX4_shareNow_19 hf rfl ⟨(Nat.le_of_ble_eq_true rfl), (Nat.le_of_ble_eq_true rfl)⟩ ⟨(Nat.le_of_ble_eq_true rfl), (Nat.le_of_ble_eq_true rfl)⟩ (Nat.le_of_ble_eq_true rfl) (fun v10 hf => ?_)
    refine E_iadd (pc := 22) O dX4_shareNow_22 ?_
    obtain ⟨v11, ev11, hf⟩ := ob hf
    have ev11 := os ev11
    rw [ev11]
    refine E_istore_n (pc := 23) O 1 [some (.ref x0), some (.int v11), some (.int x2)] dX4_shareNow_23 rfl (by decide) rfl rfl ?_
    refine E_iinc (pc := 24) O (1 : Int32) [some (.ref x0), some (.int v11), some (.int (x2 + (1 : Int32)))] dX4_shareNow_24 rfl (by decide) rfl (by decide) rfl ?_
    refine E_goto (pc := 27) O 4 dX4_shareNow_27 (by decide) ?_
    exact hr4 x0 v11 (x2 + (1 : Int32)) hf
theorem t_f_X4_shareNow_4 {K : Cx} {fr : Bool} {out : UInt64} {h : MH} (O : Ok K yX4_shareNow.cls cX4_shareNow 3 (rmm 1 22 0 0)) (Z : Out K (some .double) fr (some (.double out)) h) : ∀ (n : Nat) (x0 : Nat) (x1 : Int32) (x2 : Int32), f_X4_shareNow_4 h n x0 x1 x2 = some out → EE K (fr, 0, 0) 4 [some (.ref x0), some (.int x1), some (.int x2)] [] h := by
  intro n
  induction n with
  | zero => intro x0 x1 x2 hf; cases hf
  | succ n ih => intro x0 x1 x2 hf; exact t_b_X4_shareNow_4 O Z _ ih x0 x1 x2 hf
set_option maxHeartbeats 4000000 in
set_option maxRecDepth 100000 in
theorem t_X4_shareNow {g : Gx} {fr : Bool} {h : MH} {x0} {out : UInt64} (hf : f_X4_shareNow h x0 = some out) : MM g yX4_shareNow cX4_shareNow 3 (some .double) 1 22 0 0 fr fr [.ref x0] h (some (.double out)) h := by
  unfold f_X4_shareNow at hf
  refine MM_of (L := [some (.ref x0), none, none]) (by decide) (Nat.le_of_ble_eq_true rfl) rfl (fun K hK O Z hn => ?_)
  refine E_iconst (pc := 0) O (0 : Int32) dX4_shareNow_0 (by decide) ?_
  refine E_istore_n (pc := 1) O 1 [some (.ref x0), some (.int (0 : Int32)), none] dX4_shareNow_1 rfl (by decide) rfl rfl ?_
  refine E_iconst (pc := 2) O (0 : Int32) dX4_shareNow_2 (by decide) ?_
  refine E_istore_n (pc := 3) O 2 [some (.ref x0), some (.int (0 : Int32)), some (.int (0 : Int32))] dX4_shareNow_3 rfl (by decide) rfl rfl ?_
  exact t_f_X4_shareNow_4 O Z FU x0 (0 : Int32) (0 : Int32) hf
