/-! walks: the machine does what the plain functions say: written by program -/
set_option maxHeartbeats 4000000 in
set_option maxRecDepth 100000 in
theorem t_b_L_cell_18 {K : Cx} {fr : Bool} {out : Int32} {h : MH} (O : Ok K yL_cell.cls cL_cell 2 (rmm 0 0 0 0)) (Z : Out K (some .int) fr (some (.int out)) h) {sc : Nat × (Nat → Int32)} (hsc : gro K.1 0 = sc) (s0 : Int32) (hf : b_L_cell_18 sc h s0 = some out) : EE K (fr, 0, 0) 18 [none, none] [.int s0] h := by
  unfold b_L_cell_18 at hf
  exact E_iretP (pc := 18) O Z hf ⟨(Nat.le_of_ble_eq_true rfl), (Nat.le_of_ble_eq_true rfl)⟩ dL_cell_18
set_option maxHeartbeats 4000000 in
set_option maxRecDepth 100000 in
theorem t_L_cell {g : Gx} {fr : Bool} {h : MH} {x1} {out : Int32} {sc : Nat × (Nat → Int32)} (hsc : gro g 0 = sc) (hf : f_L_cell sc h x1 = some out) : MM g yL_cell cL_cell 2 (some .int) 0 0 0 0 fr fr [.ref (RO + 0), .int x1] h (some (.int out)) h := by
  unfold f_L_cell at hf
  refine MM_of (L := [some (.ref (RO + 0)), some (.int x1)]) (by decide) (Nat.le_of_ble_eq_true rfl) rfl (fun K hK O Z hn => ?_)
  have hsc : gro K.1 0 = sc := by rw [hK]; exact hsc
  refine E_iload_n (pc := 0) O 1 dL_cell_0 rfl rfl ?_
  refine E_aload_n (pc := 1) O 0 dL_cell_1 rfl rfl ?_
  refine E_alenRO (pc := 2) (i := 0) (n := sc.1) (xs := sc.2) O (by decide) hsc dL_cell_2 ?_
  refine E_icmp_ge (pc := 3) O 12 dL_cell_3 (by decide) hf (fun hf => ?_) (fun hf => ?_)
  · refine E_ldci (pc := 12) O (961987163 : Int32) (aw2 92 (by decide +kernel) rfl) dL_cell_12 ?_
    refine E_iload_n (pc := 14) O 1 dL_cell_14 rfl rfl ?_
    refine E_iconst (pc := 15) O (1 : Int32) dL_cell_15 (by decide) ?_
    refine E_iadd (pc := 16) O dL_cell_16 ?_
    refine E_imul (pc := 17) O dL_cell_17 ?_
    exact E_sub (L' := [none, none]) True.intro (t_b_L_cell_18 O Z hsc ((961987163 : Int32) * (x1 + (1 : Int32))) hf)
  · refine E_aload_n (pc := 6) O 0 dL_cell_6 rfl rfl ?_
    refine E_iload_n (pc := 7) O 1 dL_cell_7 rfl rfl ?_
    refine E_ialoadRO (pc := 8) (i := 0) (n := sc.1) (xs := sc.2) O (by decide) hsc dL_cell_8 hf (fun v1 hf => ?_)
    refine E_goto (pc := 9) O 18 dL_cell_9 (by decide) ?_
    exact E_sub (L' := [none, none]) True.intro (t_b_L_cell_18 O Z hsc v1 hf)
set_option maxHeartbeats 4000000 in
set_option maxRecDepth 100000 in
theorem t_L_at {g : Gx} {fr : Bool} {h : MH} {x0 x1} {out : Int32} (hf : f_L_at h x0 x1 = some out) : MM g yL_at cL_at 2 (some .int) 0 0 0 0 fr fr [.int x0, .int x1] h (some (.int out)) h := by
  unfold f_L_at at hf
  refine MM_of (L := [some (.int x0), some (.int x1)]) (by decide) (Nat.le_of_ble_eq_true rfl) rfl (fun K hK O Z hn => ?_)
  refine E_iload_n (pc := 0) O 0 dL_at_0 rfl rfl ?_
  refine E_iconst (pc := 1) O (1 : Int32) dL_at_1 (by decide) ?_
  refine E_iushr (pc := 2) O dL_at_2 ?_
  refine E_iload_n (pc := 3) O 1 dL_at_3 rfl rfl ?_
  refine E_irem (pc := 4) O dL_at_4 hf (fun v1 hf => ?_)
  exact E_iretP (pc := 5) O Z hf ⟨(Nat.le_of_ble_eq_true rfl), (Nat.le_of_ble_eq_true rfl)⟩ dL_at_5
set_option maxHeartbeats 4000000 in
set_option maxRecDepth 100000 in
theorem t_b_L_flag_57 {K : Cx} {fr : Bool} {out : Int32} {h : MH} (O : Ok K yL_flag.cls cL_flag 3 (rmm 0 0 0 0)) (Z : Out K (some .boolean) fr (some (.int out)) h) (s0 : Int32) (hf : b_L_flag_57 h s0 = some out) : EE K (fr, 0, 0) 57 [none, none, none] [.int s0] h := by
  unfold b_L_flag_57 at hf
  exact E_zretP (pc := 57) O Z hf ⟨(Nat.le_of_ble_eq_true rfl), (Nat.le_of_ble_eq_true rfl)⟩ dL_flag_57
set_option maxHeartbeats 4000000 in
set_option maxRecDepth 100000 in
theorem t_b_L_flag_52 {K : Cx} {fr : Bool} {out : Int32} {h : MH} (O : Ok K yL_flag.cls cL_flag 3 (rmm 0 0 0 0)) (Z : Out K (some .boolean) fr (some (.int out)) h)  (hf : b_L_flag_52 h  = some out) : EE K (fr, 0, 0) 52 [none, none, none] [] h := by
  unfold b_L_flag_52 at hf
  refine E_iconst (pc := 52) O (1 : Int32) dL_flag_52 (by decide) ?_
  refine E_goto (pc := 53) O 57 dL_flag_53 (by decide) ?_
  exact t_b_L_flag_57 O Z (1 : Int32) hf
set_option maxHeartbeats 4000000 in
set_option maxRecDepth 100000 in
theorem t_b_L_flag_56 {K : Cx} {fr : Bool} {out : Int32} {h : MH} (O : Ok K yL_flag.cls cL_flag 3 (rmm 0 0 0 0)) (Z : Out K (some .boolean) fr (some (.int out)) h)  (hf : b_L_flag_56 h  = some out) : EE K (fr, 0, 0) 56 [none, none, none] [] h := by
  unfold b_L_flag_56 at hf
  refine E_iconst (pc := 56) O (0 : Int32) dL_flag_56 (by decide) ?_
  exact t_b_L_flag_57 O Z (0 : Int32) hf
set_option maxHeartbeats 4000000 in
set_option maxRecDepth 100000 in
theorem t_L_flag {g : Gx} {fr : Bool} {h : MH} {x0 x1 x2} {out : Int32} (hf : f_L_flag h x0 x1 x2 = some out) : MM g yL_flag cL_flag 3 (some .boolean) 0 0 0 0 fr fr [.int x0, .ref x1, .ref x2] h (some (.int out)) h := by
  unfold f_L_flag at hf
  refine MM_of (L := [some (.int x0), some (.ref x1), some (.ref x2)]) (by decide) (Nat.le_of_ble_eq_true rfl) rfl (fun K hK O Z hn => ?_)
  refine E_aload_n (pc := 0) O 2 dL_flag_0 rfl rfl ?_
  refine E_bipush (pc := 1) O (9 : Int32) dL_flag_1 (by decide) ?_
  refine E_iload_n (pc := 3) O 0 dL_flag_3 rfl rfl ?_
  refine E_imul (pc := 4) O dL_flag_4 ?_
  refine E_iconst (pc := 5) O (4 : Int32) dL_flag_5 (by decide) ?_
  refine E_iadd (pc := 6) O dL_flag_6 ?_
  refine E_iaload (pc := 7) O dL_flag_7 hf (fun v1 hf => ?_)
  refine E_iconst (pc := 8) O (2 : Int32) dL_flag_8 (by decide) ?_
  refine E_icmp_eq (pc := 9) O 52 dL_flag_9 (by decide) hf (fun hf => ?_) (fun hf => ?_)
  · exact E_sub (L' := [none, none, none]) True.intro (t_b_L_flag_52 O Z  hf)
  · refine E_aload_n (pc := 12) O 2 dL_flag_12 rfl rfl ?_
    refine E_bipush (pc := 13) O (9 : Int32) dL_flag_13 (by decide) ?_
    refine E_iload_n (pc := 15) O 0 dL_flag_15 rfl rfl ?_
    refine E_imul (pc := 16) O dL_flag_16 ?_
    refine E_iconst (pc := 17) O (4 : Int32) dL_flag_17 (by decide) ?_
    refine E_iadd (pc := 18) O dL_flag_18 ?_
    refine E_iaload (pc := 19) O dL_flag_19 hf (fun v2 hf => ?_)
    refine E_if_ne (pc := 20) O 56 dL_flag_20 (by decide) hf (fun hf => ?_) (fun hf => ?_)
    · exact E_sub (L' := [none, none, none]) True.intro (t_b_L_flag_56 O Z  hf)
    · refine E_bipush (pc := 23) O (100 : Int32) dL_flag_23 (by decide) ?_
      refine E_aload_n (pc := 25) O 2 dL_flag_25 rfl rfl ?_
      refine E_bipush (pc := 26) O (9 : Int32) dL_flag_26 (by decide) ?_
      refine E_iload_n (pc := 28) O 0 dL_flag_28 rfl rfl ?_
      refine E_imul (pc := 29) O dL_flag_29 ?_
      refine E_iconst (pc := 30) O (3 : Int32) dL_flag_30 (by decide) ?_
      refine E_iadd (pc := 31) O dL_flag_31 ?_
      refine E_iaload (pc := 32) O dL_flag_32 hf (fun v3 hf => ?_)
      refine E_imul (pc := 33) O dL_flag_33 ?_
      refine E_aload_n (pc := 34) O 1 dL_flag_34 rfl rfl ?_
      refine E_bipush (pc := 35) O (7 : Int32) dL_flag_35 (by decide) ?_
      refine E_iload_n (pc := 37) O 0 dL_flag_37 rfl rfl ?_
      refine E_imul (pc := 38) O dL_flag_38 ?_
      refine E_iaload (pc := 39) O dL_flag_39 hf (fun v4 hf => ?_)
      refine E_aload_n (pc := 40) O 1 dL_flag_40 rfl rfl ?_
      refine E_bipush (pc := 41) O (7 : Int32) dL_flag_41 (by decide) ?_
      refine E_iload_n (pc := 43) O 0 dL_flag_43 rfl rfl ?_
      refine E_imul (pc := 44) O dL_flag_44 ?_
      refine E_iconst (pc := 45) O (3 : Int32) dL_flag_45 (by decide) ?_
      refine E_iadd (pc := 46) O dL_flag_46 ?_
      refine E_iaload (pc := 47) O dL_flag_47 hf (fun v5 hf => ?_)
      refine E_imul (pc := 48) O dL_flag_48 ?_
      refine E_icmp_lt (pc := 49) O 56 dL_flag_49 (by decide) hf (fun hf => ?_) (fun hf => ?_)
      · exact E_sub (L' := [none, none, none]) True.intro (t_b_L_flag_56 O Z  hf)
      · exact E_sub (L' := [none, none, none]) True.intro (t_b_L_flag_52 O Z  hf)
set_option maxHeartbeats 4000000 in
set_option maxRecDepth 100000 in
theorem t_b_L_enter_130 {K : Cx} {fr : Bool} {out : MH} (O : Ok K yL_enter.cls cL_enter 7 (rmm 0 0 0 0)) (Z : Out K none fr none out) (h : MH) (hf : b_L_enter_130 h = some out) : EE K (fr, 0, 0) 130 [none, none, none, none, none, none, none] [] h := by
  unfold b_L_enter_130 at hf
  exact E_vret (pc := 130) O Z hf ⟨(Nat.le_of_ble_eq_true rfl), (Nat.le_of_ble_eq_true rfl)⟩ dL_enter_130
set_option maxHeartbeats 4000000 in
set_option maxRecDepth 100000 in
theorem t_b_L_enter_59 {K : Cx} {fr : Bool} {out : MH} (O : Ok K yL_enter.cls cL_enter 7 (rmm 0 0 0 0)) (Z : Out K none fr none out) (rec59 : MH → Int32 → Int32 → Nat → Nat → Nat → Int32 → Option MH) (hr59 : ∀ (h : MH) (x0 : Int32) (x1 : Int32) (x2 : Nat) (x4 : Nat) (x5 : Nat) (x6 : Int32), rec59 h x0 x1 x2 x4 x5 x6 = some out → EE K (fr, 0, 0) 59 [some (.int x0), some (.int x1), some (.ref x2), none, some (.ref x4), some (.ref x5), some (.int x6)] [] h) (h : MH) (x0 : Int32) (x1 : Int32) (x2 : Nat) (x4 : Nat) (x5 : Nat) (x6 : Int32) (hf : b_L_enter_59 rec59 h x0 x1 x2 x4 x5 x6 = some out) : EE K (fr, 0, 0) 59 [some (.int x0), some (.int x1), some (.ref x2), none, some (.ref x4), some (.ref x5), some (.int x6)] [] h := by
  unfold b_L_enter_59 at hf
  refine E_iload (pc := 59) O dL_enter_59 rfl ?_
  refine E_if_lt (pc := 61) O 82 dL_enter_61 (by decide) hf (fun hf => ?_) (fun hf => ?_)
  · refine E_aload (pc := 82) O dL_enter_82 rfl ?_
    refine E_iconst (pc := 84) O (0 : Int32) dL_enter_84 (by decide) ?_
    refine E_aload (pc := 85) O dL_enter_85 rfl ?_
    refine E_iconst (pc := 87) O (2 : Int32) dL_enter_87 (by decide) ?_
    refine E_iaload (pc := 88) O dL_enter_88 hf (fun v1 hf => ?_)
    refine E_iastore (pc := 89) O dL_enter_89 hf (fun h2 hf => ?_)
    refine E_aload (pc := 90) O dL_enter_90 rfl ?_
    refine E_iconst (pc := 92) O (1 : Int32) dL_enter_92 (by decide) ?_
    refine E_iload_n (pc := 93) O 0 dL_enter_93 rfl rfl ?_
    refine E_iastore (pc := 94) O dL_enter_94 hf (fun h3 hf => ?_)
    refine E_aload (pc := 95) O dL_enter_95 rfl ?_
    refine E_iconst (pc := 97) O (2 : Int32) dL_enter_97 (by decide) ?_
    refine E_iload_n (pc := 98) O 1 dL_enter_98 rfl rfl ?_
    refine E_iastore (pc := 99) O dL_enter_99 hf (fun h4 hf => ?_)
    refine E_aload (pc := 100) O dL_enter_100 rfl ?_
    refine E_iconst (pc := 102) O (3 : Int32) dL_enter_102 (by decide) ?_
    refine E_aload_n (pc := 103) O 2 dL_enter_103 rfl rfl ?_
    refine E_bipush (pc := 104) O (9 : Int32) dL_enter_104 (by decide) ?_
    refine E_iload_n (pc := 106) O 0 dL_enter_106 rfl rfl ?_
    refine E_imul (pc := 107) O dL_enter_107 ?_
    refine E_bipush (pc := 108) O (8 : Int32) dL_enter_108 (by decide) ?_
    refine E_iadd (pc := 110) O dL_enter_110 ?_
    refine E_iaload (pc := 111) O dL_enter_111 hf (fun v5 hf => ?_)
    refine E_iastore (pc := 112) O dL_enter_112 hf (fun h6 hf => ?_)
    refine E_aload (pc := 113) O dL_enter_113 rfl ?_
    refine E_iconst (pc := 115) O (3 : Int32) dL_enter_115 (by decide) ?_
    refine E_iaload (pc := 116) O dL_enter_116 hf (fun v7 hf => ?_)
    refine E_bipush (pc := 117) O (16 : Int32) dL_enter_117 (by decide) ?_
    refine E_icmp_ge (pc := 119) O 130 dL_enter_119 (by decide) hf (fun hf => ?_) (fun hf => ?_)
    · exact E_sub (L' := [none, none, none, none, none, none, none]) True.intro (t_b_L_enter_130 O Z h6 hf)
    · refine E_aload (pc := 122) O dL_enter_122 rfl ?_
      refine E_iconst (pc := 124) O (3 : Int32) dL_enter_124 (by decide) ?_
      refine E_dup2 (pc := 125) O dL_enter_125 rfl rfl ?_
      refine E_iaload (pc := 126) O dL_enter_126 hf (fun v8 hf => ?_)
      refine E_iconst (pc := 127) O (1 : Int32) dL_enter_127 (by decide) ?_
      refine E_iadd (pc := 128) O dL_enter_128 ?_
      refine E_iastore (pc := 129) O dL_enter_129 hf (fun h9 hf => ?_)
      exact E_sub (L' := [none, none, none, none, none, none, none]) True.intro (t_b_L_enter_130 O Z h9 hf)
  · refine E_aload (pc := 64) O dL_enter_64 rfl ?_
    refine E_iload (pc := 66) O dL_enter_66 rfl ?_
    refine E_iconst (pc := 68) O (4 : Int32) dL_enter_68 (by decide) ?_
    refine E_iadd (pc := 69) O dL_enter_69 ?_
    refine E_aload (pc := 70) O dL_enter_70 rfl ?_
    refine E_iload (pc := 72) O dL_enter_72 rfl ?_
    refine E_iaload (pc := 74) O dL_enter_74 hf (fun v10 hf => ?_)
    refine E_iastore (pc := 75) O dL_enter_75 hf (fun h11 hf => ?_)
    refine E_iinc (pc := 76) O (-1 : Int32) [some (.int x0), some (.int x1), some (.ref x2), none, some (.ref x4), some (.ref x5), some (.int (x6 + (-1 : Int32)))] dL_enter_76 rfl (by decide) rfl (by decide) rfl ?_
    refine E_goto (pc := 79) O 59 dL_enter_79 (by decide) ?_
    exact hr59 h11 x0 x1 x2 x4 x5 (x6 + (-1 : Int32)) hf
theorem t_f_L_enter_59 {K : Cx} {fr : Bool} {out : MH} (O : Ok K yL_enter.cls cL_enter 7 (rmm 0 0 0 0)) (Z : Out K none fr none out) : ∀ (n : Nat) (h : MH) (x0 : Int32) (x1 : Int32) (x2 : Nat) (x4 : Nat) (x5 : Nat) (x6 : Int32), f_L_enter_59 n h x0 x1 x2 x4 x5 x6 = some out → EE K (fr, 0, 0) 59 [some (.int x0), some (.int x1), some (.ref x2), none, some (.ref x4), some (.ref x5), some (.int x6)] [] h := by
  intro n
  induction n with
  | zero => intro h x0 x1 x2 x4 x5 x6 hf; cases hf
  | succ n ih => intro h x0 x1 x2 x4 x5 x6 hf; exact t_b_L_enter_59 O Z _ ih h x0 x1 x2 x4 x5 x6 hf
set_option maxHeartbeats 4000000 in
set_option maxRecDepth 100000 in
theorem t_b_L_enter_55 {K : Cx} {fr : Bool} {out : MH} (O : Ok K yL_enter.cls cL_enter 7 (rmm 0 0 0 0)) (Z : Out K none fr none out) (h : MH) (x0 : Int32) (x1 : Int32) (x2 : Nat) (x4 : Nat) (x5 : Nat) (hf : b_L_enter_55 h x0 x1 x2 x4 x5 = some out) : EE K (fr, 0, 0) 55 [some (.int x0), some (.int x1), some (.ref x2), none, some (.ref x4), some (.ref x5), none] [] h := by
  unfold b_L_enter_55 at hf
  refine E_bipush (pc := 55) O (59 : Int32) dL_enter_55 (by decide) ?_
  refine E_istore (pc := 57) O [some (.int x0), some (.int x1), some (.ref x2), none, some (.ref x4), some (.ref x5), some (.int (59 : Int32))] dL_enter_57 (by decide) rfl rfl ?_
  exact t_f_L_enter_59 O Z FU h x0 x1 x2 x4 x5 (59 : Int32) hf
set_option maxHeartbeats 4000000 in
set_option maxRecDepth 100000 in
theorem t_b_L_enter_42 {K : Cx} {fr : Bool} {out : MH} (O : Ok K yL_enter.cls cL_enter 7 (rmm 0 0 0 0)) (Z : Out K none fr none out) (h : MH) (x0 : Int32) (x1 : Int32) (x2 : Nat) (x3 : Nat) (x4 : Nat) (x5 : Nat) (hf : b_L_enter_42 h x0 x1 x2 x3 x4 x5 = some out) : EE K (fr, 0, 0) 42 [some (.int x0), some (.int x1), some (.ref x2), some (.ref x3), some (.ref x4), some (.ref x5), none] [] h := by
  unfold b_L_enter_42 at hf
  refine E_aload_n (pc := 42) O 3 dL_enter_42 rfl rfl ?_
  refine E_iconst (pc := 43) O (4 : Int32) dL_enter_43 (by decide) ?_
  refine E_iload_n (pc := 44) O 0 dL_enter_44 rfl rfl ?_
  refine E_imul (pc := 45) O dL_enter_45 ?_
  refine E_iload_n (pc := 46) O 1 dL_enter_46 rfl rfl ?_
  refine E_iadd (pc := 47) O dL_enter_47 ?_
  refine E_iconst (pc := 48) O (2 : Int32) dL_enter_48 (by decide) ?_
  refine E_isub (pc := 49) O dL_enter_49 ?_
  refine E_dup2 (pc := 50) O dL_enter_50 rfl rfl ?_
  refine E_iaload (pc := 51) O dL_enter_51 hf (fun v12 hf => ?_)
  refine E_iconst (pc := 52) O (1 : Int32) dL_enter_52 (by decide) ?_
  refine E_iadd (pc := 53) O dL_enter_53 ?_
  refine E_iastore (pc := 54) O dL_enter_54 hf (fun h13 hf => ?_)
  exact E_sub (L' := [some (.int x0), some (.int x1), some (.ref x2), none, some (.ref x4), some (.ref x5), none]) (And.intro rfl (And.intro rfl (And.intro rfl (And.intro rfl (And.intro rfl True.intro))))) (t_b_L_enter_55 O Z h13 x0 x1 x2 x4 x5 hf)
set_option maxHeartbeats 4000000 in
set_option maxRecDepth 100000 in
theorem t_b_L_enter_32 {K : Cx} {fr : Bool} {out : MH} (O : Ok K yL_enter.cls cL_enter 7 (rmm 0 0 0 0)) (Z : Out K none fr none out) (h : MH) (x0 : Int32) (x1 : Int32) (x2 : Nat) (x3 : Nat) (x4 : Nat) (x5 : Nat) (hf : b_L_enter_32 h x0 x1 x2 x3 x4 x5 = some out) : EE K (fr, 0, 0) 32 [some (.int x0), some (.int x1), some (.ref x2), some (.ref x3), some (.ref x4), some (.ref x5), none] [] h := by
  unfold b_L_enter_32 at hf
  refine E_iload_n (pc := 32) O 1 dL_enter_32 rfl rfl ?_
  refine E_iconst (pc := 33) O (2 : Int32) dL_enter_33 (by decide) ?_
  refine E_icmp_eq (pc := 34) O 42 dL_enter_34 (by decide) hf (fun hf => ?_) (fun hf => ?_)
  · exact t_b_L_enter_42 O Z h x0 x1 x2 x3 x4 x5 hf
  · refine E_iload_n (pc := 37) O 1 dL_enter_37 rfl rfl ?_
    refine E_iconst (pc := 38) O (3 : Int32) dL_enter_38 (by decide) ?_
    refine E_icmp_ne (pc := 39) O 55 dL_enter_39 (by decide) hf (fun hf => ?_) (fun hf => ?_)
    · exact E_sub (L' := [some (.int x0), some (.int x1), some (.ref x2), none, some (.ref x4), some (.ref x5), none]) (And.intro rfl (And.intro rfl (And.intro rfl (And.intro rfl (And.intro rfl True.intro))))) (t_b_L_enter_55 O Z h x0 x1 x2 x4 x5 hf)
    · exact t_b_L_enter_42 O Z h x0 x1 x2 x3 x4 x5 hf
set_option maxHeartbeats 4000000 in
set_option maxRecDepth 100000 in
theorem t_L_enter {g : Gx} {fr : Bool} {h : MH} {x0 x1 x2 x3 x4 x5} {out : MH} (hf : f_L_enter h x0 x1 x2 x3 x4 x5 = some out) : MM g yL_enter cL_enter 7 none 0 0 0 0 fr fr [.int x0, .int x1, .ref x2, .ref x3, .ref x4, .ref x5] h none out := by
  unfold f_L_enter at hf
  refine MM_of (L := [some (.int x0), some (.int x1), some (.ref x2), some (.ref x3), some (.ref x4), some (.ref x5), none]) (by decide) (Nat.le_of_ble_eq_true rfl) rfl (fun K hK O Z hn => ?_)
  refine E_aload_n (pc := 0) O 2 dL_enter_0 rfl rfl ?_
  refine E_bipush (pc := 1) O (9 : Int32) dL_enter_1 (by decide) ?_
  refine E_iload_n (pc := 3) O 0 dL_enter_3 rfl rfl ?_
  refine E_imul (pc := 4) O dL_enter_4 ?_
  refine E_iconst (pc := 5) O (2 : Int32) dL_enter_5 (by decide) ?_
  refine E_iadd (pc := 6) O dL_enter_6 ?_
  refine E_iload_n (pc := 7) O 1 dL_enter_7 rfl rfl ?_
  refine E_iastore (pc := 8) O dL_enter_8 hf (fun h14 hf => ?_)
  refine E_aload (pc := 9) O dL_enter_9 rfl ?_
  refine E_iconst (pc := 11) O (4 : Int32) dL_enter_11 (by decide) ?_
  refine E_dup2 (pc := 12) O dL_enter_12 rfl rfl ?_
  refine E_iaload (pc := 13) O dL_enter_13 hf (fun v15 hf => ?_)
  refine E_iconst (pc := 14) O (1 : Int32) dL_enter_14 (by decide) ?_
  refine E_iadd (pc := 15) O dL_enter_15 ?_
  refine E_iastore (pc := 16) O dL_enter_16 hf (fun h16 hf => ?_)
  refine E_iload_n (pc := 17) O 1 dL_enter_17 rfl rfl ?_
  refine E_iconst (pc := 18) O (3 : Int32) dL_enter_18 (by decide) ?_
  refine E_icmp_le (pc := 19) O 32 dL_enter_19 (by decide) hf (fun hf => ?_) (fun hf => ?_)
  · exact t_b_L_enter_32 O Z h16 x0 x1 x2 x3 x4 x5 hf
  · refine E_aload (pc := 22) O dL_enter_22 rfl ?_
    refine E_iconst (pc := 24) O (5 : Int32) dL_enter_24 (by decide) ?_
    refine E_dup2 (pc := 25) O dL_enter_25 rfl rfl ?_
    refine E_iaload (pc := 26) O dL_enter_26 hf (fun v17 hf => ?_)
    refine E_iconst (pc := 27) O (1 : Int32) dL_enter_27 (by decide) ?_
    refine E_iload_n (pc := 28) O 0 dL_enter_28 rfl rfl ?_
    refine E_ishl (pc := 29) O dL_enter_29 ?_
    refine E_ior (pc := 30) O dL_enter_30 ?_
    refine E_iastore (pc := 31) O dL_enter_31 hf (fun h18 hf => ?_)
    exact t_b_L_enter_32 O Z h18 x0 x1 x2 x3 x4 x5 hf
set_option maxHeartbeats 4000000 in
set_option maxRecDepth 100000 in
theorem t_b_L_next_63 {K : Cx} {fr : Bool} {out : Int32} {h : MH} (O : Ok K yL_next.cls cL_next 11 (rmm 1 22 0 0)) (Z : Out K (some .int) fr (some (.int out)) h) (rec12 : Int32 → Int32 → Nat → Nat → Nat → Int32 → Int32 → Int32 → Option Int32) (hr12 : ∀ (x0 : Int32) (x1 : Int32) (x2 : Nat) (x3 : Nat) (x4 : Nat) (x5 : Int32) (x6 : Int32) (x7 : Int32), rec12 x0 x1 x2 x3 x4 x5 x6 x7 = some out → EE K (fr, 0, 0) 12 [some (.int x0), some (.int x1), some (.ref x2), some (.ref x3), some (.ref x4), some (.int x5), some (.int x6), some (.int x7), none, none, none] [] h) (x0 : Int32) (x1 : Int32) (x2 : Nat) (x3 : Nat) (x4 : Nat) (x5 : Int32) (x6 : Int32) (x7 : Int32) (hf : b_L_next_63 h rec12 x0 x1 x2 x3 x4 x5 x6 x7 = some out) : EE K (fr, 0, 0) 63 [some (.int x0), some (.int x1), some (.ref x2), some (.ref x3), some (.ref x4), some (.int x5), some (.int x6), some (.int x7), none, none, none] [] h := by
  unfold b_L_next_63 at hf
  refine E_iinc (pc := 63) O (1 : Int32) [some (.int x0), some (.int x1), some (.ref x2), some (.ref x3), some (.ref x4), some (.int x5), some (.int x6), some (.int (x7 + (1 : Int32))), none, none, none] dL_next_63 rfl (by decide) rfl (by decide) rfl ?_
  refine E_goto (pc := 66) O 12 dL_next_66 (by decide) ?_
  exact hr12 x0 x1 x2 x3 x4 x5 x6 (x7 + (1 : Int32)) hf
set_option maxHeartbeats 4000000 in
set_option maxRecDepth 100000 in
theorem t_b_L_next_59 {K : Cx} {fr : Bool} {out : Int32} {h : MH} (O : Ok K yL_next.cls cL_next 11 (rmm 1 22 0 0)) (Z : Out K (some .int) fr (some (.int out)) h) (rec12 : Int32 → Int32 → Nat → Nat → Nat → Int32 → Int32 → Int32 → Option Int32) (hr12 : ∀ (x0 : Int32) (x1 : Int32) (x2 : Nat) (x3 : Nat) (x4 : Nat) (x5 : Int32) (x6 : Int32) (x7 : Int32), rec12 x0 x1 x2 x3 x4 x5 x6 x7 = some out → EE K (fr, 0, 0) 12 [some (.int x0), some (.int x1), some (.ref x2), some (.ref x3), some (.ref x4), some (.int x5), some (.int x6), some (.int x7), none, none, none] [] h) (x0 : Int32) (x1 : Int32) (x2 : Nat) (x3 : Nat) (x4 : Nat) (x5 : Int32) (x7 : Int32) (hf : b_L_next_59 h rec12 x0 x1 x2 x3 x4 x5 x7 = some out) : EE K (fr, 0, 0) 59 [some (.int x0), some (.int x1), some (.ref x2), some (.ref x3), some (.ref x4), some (.int x5), none, some (.int x7), none, none, none] [] h := by
  unfold b_L_next_59 at hf
  refine E_iload (pc := 59) O dL_next_59 rfl ?_
  refine E_istore (pc := 61) O [some (.int x0), some (.int x1), some (.ref x2), some (.ref x3), some (.ref x4), some (.int x5), some (.int x7), some (.int x7), none, none, none] dL_next_61 (by decide) rfl rfl ?_
  exact t_b_L_next_63 O Z _ hr12 x0 x1 x2 x3 x4 x5 x7 x7 hf
set_option maxHeartbeats 4000000 in
set_option maxRecDepth 100000 in
theorem t_b_L_next_228 {K : Cx} {fr : Bool} {out : Int32} {h : MH} (O : Ok K yL_next.cls cL_next 11 (rmm 1 22 0 0)) (Z : Out K (some .int) fr (some (.int out)) h) (s0 : Int32) (hf : b_L_next_228 h s0 = some out) : EE K (fr, 0, 0) 228 [none, none, none, none, none, none, none, none, none, none, none] [.int s0] h := by
  unfold b_L_next_228 at hf
  exact E_iretP (pc := 228) O Z hf ⟨(Nat.le_of_ble_eq_true rfl), (Nat.le_of_ble_eq_true rfl)⟩ dL_next_228
set_option maxHeartbeats 4000000 in
set_option maxRecDepth 100000 in
theorem t_b_L_next_227 {K : Cx} {fr : Bool} {out : Int32} {h : MH} (O : Ok K yL_next.cls cL_next 11 (rmm 1 22 0 0)) (Z : Out K (some .int) fr (some (.int out)) h)  (hf : b_L_next_227 h  = some out) : EE K (fr, 0, 0) 227 [none, none, none, none, none, none, none, none, none, none, none] [] h := by
  unfold b_L_next_227 at hf
  refine E_iconst (pc := 227) O (-1 : Int32) dL_next_227 (by decide) ?_
  exact t_b_L_next_228 O Z (-1 : Int32) hf
set_option maxHeartbeats 4000000 in
set_option maxRecDepth 100000 in
theorem t_b_L_next_131 {K : Cx} {fr : Bool} {out : Int32} {h : MH} (O : Ok K yL_next.cls cL_next 11 (rmm 1 22 0 0)) (Z : Out K (some .int) fr (some (.int out)) h) (s0 : Int32) (hf : b_L_next_131 h s0 = some out) : EE K (fr, 0, 0) 131 [none, none, none, none, none, none, none, none, none, none, none] [.int s0] h := by
  unfold b_L_next_131 at hf
  exact E_iretP (pc := 131) O Z hf ⟨(Nat.le_of_ble_eq_true rfl), (Nat.le_of_ble_eq_true rfl)⟩ dL_next_131
set_option maxHeartbeats 4000000 in
set_option maxRecDepth 100000 in
theorem t_b_L_next_206 {K : Cx} {fr : Bool} {out : Int32} {h : MH} (O : Ok K yL_next.cls cL_next 11 (rmm 1 22 0 0)) (Z : Out K (some .int) fr (some (.int out)) h) (s0 : Int32) (hf : b_L_next_206 h s0 = some out) : EE K (fr, 0, 0) 206 [none, none, none, none, none, none, none, none, none, none, none] [.int s0] h := by
  unfold b_L_next_206 at hf
  exact E_iretP (pc := 206) O Z hf ⟨(Nat.le_of_ble_eq_true rfl), (Nat.le_of_ble_eq_true rfl)⟩ dL_next_206
set_option maxHeartbeats 4000000 in
set_option maxRecDepth 100000 in
theorem t_b_L_next_311 {K : Cx} {fr : Bool} {out : Int32} {h : MH} (O : Ok K yL_next.cls cL_next 11 (rmm 1 22 0 0)) (Z : Out K (some .int) fr (some (.int out)) h) (s0 : Int32) (hf : b_L_next_311 h s0 = some out) : EE K (fr, 0, 0) 311 [none, none, none, none, none, none, none, none, none, none, none] [.int s0] h := by
  unfold b_L_next_311 at hf
  exact E_iretP (pc := 311) O Z hf ⟨(Nat.le_of_ble_eq_true rfl), (Nat.le_of_ble_eq_true rfl)⟩ dL_next_311
set_option maxHeartbeats 4000000 in
set_option maxRecDepth 100000 in
theorem t_b_L_next_408 {K : Cx} {fr : Bool} {out : Int32} {h : MH} (O : Ok K yL_next.cls cL_next 11 (rmm 1 22 0 0)) (Z : Out K (some .int) fr (some (.int out)) h)  (hf : b_L_next_408 h  = some out) : EE K (fr, 0, 0) 408 [none, none, none, none, none, none, none, none, none, none, none] [] h := by
  unfold b_L_next_408 at hf
  refine E_iconst (pc := 408) O (-1 : Int32) dL_next_408 (by decide) ?_
  exact E_iretP (pc := 409) O Z hf ⟨(Nat.le_of_ble_eq_true rfl), (Nat.le_of_ble_eq_true rfl)⟩ dL_next_409
set_option maxHeartbeats 4000000 in
set_option maxRecDepth 100000 in
theorem t_b_L_next_410 {K : Cx} {fr : Bool} {out : Int32} {h : MH} (O : Ok K yL_next.cls cL_next 11 (rmm 1 22 0 0)) (Z : Out K (some .int) fr (some (.int out)) h) (rec343 : Int32 → Int32 → Nat → Nat → Int32 → Option Int32) (hr343 : ∀ (x0 : Int32) (x1 : Int32) (x3 : Nat) (x4 : Nat) (x10 : Int32), rec343 x0 x1 x3 x4 x10 = some out → EE K (fr, 0, 0) 343 [some (.int x0), some (.int x1), none, some (.ref x3), some (.ref x4), none, none, none, none, none, some (.int x10)] [] h) (x0 : Int32) (x1 : Int32) (x3 : Nat) (x4 : Nat) (x10 : Int32) (hf : b_L_next_410 h rec343 x0 x1 x3 x4 x10 = some out) : EE K (fr, 0, 0) 410 [some (.int x0), some (.int x1), none, some (.ref x3), some (.ref x4), none, none, none, none, none, some (.int x10)] [] h := by
  unfold b_L_next_410 at hf
  refine E_iinc (pc := 410) O (1 : Int32) [some (.int x0), some (.int x1), none, some (.ref x3), some (.ref x4), none, none, none, none, none, some (.int (x10 + (1 : Int32)))] dL_next_410 rfl (by decide) rfl (by decide) rfl ?_
  refine E_goto (pc := 413) O 343 dL_next_413 (by decide) ?_
  exact hr343 x0 x1 x3 x4 (x10 + (1 : Int32)) hf
set_option maxHeartbeats 4000000 in
set_option maxRecDepth 100000 in
theorem t_b_L_next_343 {K : Cx} {fr : Bool} {out : Int32} {h : MH} (O : Ok K yL_next.cls cL_next 11 (rmm 1 22 0 0)) (Z : Out K (some .int) fr (some (.int out)) h) (rec343 : Int32 → Int32 → Nat → Nat → Int32 → Option Int32) (hr343 : ∀ (x0 : Int32) (x1 : Int32) (x3 : Nat) (x4 : Nat) (x10 : Int32), rec343 x0 x1 x3 x4 x10 = some out → EE K (fr, 0, 0) 343 [some (.int x0), some (.int x1), none, some (.ref x3), some (.ref x4), none, none, none, none, none, some (.int x10)] [] h) (x0 : Int32) (x1 : Int32) (x3 : Nat) (x4 : Nat) (x10 : Int32) (hf : b_L_next_343 h rec343 x0 x1 x3 x4 x10 = some out) : EE K (fr, 0, 0) 343 [some (.int x0), some (.int x1), none, some (.ref x3), some (.ref x4), none, none, none, none, none, some (.int x10)] [] h := by
  unfold b_L_next_343 at hf
  refine E_iload (pc := 343) O dL_next_343 rfl ?_
  refine E_aload (pc := 345) O dL_next_345 rfl ?_
  refine E_iconst (pc := 347) O (0 : Int32) dL_next_347 (by decide) ?_
  refine E_iaload (pc := 348) O dL_next_348 hf (fun v1 hf => ?_)
  refine E_icmp_ge (pc := 349) O 416 dL_next_349 (by decide) hf (fun hf => ?_) (fun hf => ?_)
  · refine E_bipush (pc := 416) O (24 : Int32) dL_next_416 (by decide) ?_
    exact E_iretP (pc := 418) O Z hf ⟨(Nat.le_of_ble_eq_true rfl), (Nat.le_of_ble_eq_true rfl)⟩ dL_next_418
  · refine E_aload_n (pc := 352) O 3 dL_next_352 rfl rfl ?_
    refine E_bipush (pc := 353) O (9 : Int32) dL_next_353 (by decide) ?_
    refine E_iload (pc := 355) O dL_next_355 rfl ?_
    refine E_imul (pc := 357) O dL_next_357 ?_
    refine E_iaload (pc := 358) O dL_next_358 hf (fun v2 hf => ?_)
    refine E_iload_n (pc := 359) O 0 dL_next_359 rfl rfl ?_
    refine E_ishr (pc := 360) O dL_next_360 ?_
    refine E_iconst (pc := 361) O (1 : Int32) dL_next_361 (by decide) ?_
    refine E_iand (pc := 362) O dL_next_362 ?_
    refine E_iconst (pc := 363) O (1 : Int32) dL_next_363 (by decide) ?_
    refine E_icmp_ne (pc := 364) O 410 dL_next_364 (by decide) hf (fun hf => ?_) (fun hf => ?_)
    · exact t_b_L_next_410 O Z _ hr343 x0 x1 x3 x4 x10 hf
    · refine E_aload_n (pc := 367) O 3 dL_next_367 rfl rfl ?_
      refine E_bipush (pc := 368) O (9 : Int32) dL_next_368 (by decide) ?_
      refine E_iload (pc := 370) O dL_next_370 rfl ?_
      refine E_imul (pc := 372) O dL_next_372 ?_
      refine E_iconst (pc := 373) O (3 : Int32) dL_next_373 (by decide) ?_
      refine E_iadd (pc := 374) O dL_next_374 ?_
      refine E_iaload (pc := 375) O dL_next_375 hf (fun v3 hf => ?_)
      refine E_aload (pc := 376) O dL_next_376 rfl ?_
      refine E_iconst (pc := 378) O (1 : Int32) dL_next_378 (by decide) ?_
      refine E_iaload (pc := 379) O dL_next_379 hf (fun v4 hf => ?_)
      refine E_icmp_gt (pc := 380) O 408 dL_next_380 (by decide) hf (fun hf => ?_) (fun hf => ?_)
      · exact E_sub (L' := [none, none, none, none, none, none, none, none, none, none, none]) True.intro (t_b_L_next_408 O Z  hf)
      · refine E_iload_n (pc := 383) O 1 dL_next_383 rfl rfl ?_
        refine E_iconst (pc := 384) O (3 : Int32) dL_next_384 (by decide) ?_
        refine E_iload (pc := 385) O dL_next_385 rfl ?_
        refine E_imul (pc := 387) O dL_next_387 ?_
        refine E_ishr (pc := 388) O dL_next_388 ?_
        refine E_bipush (pc := 389) O (7 : Int32) dL_next_389 (by decide) ?_
        refine E_iand (pc := 391) O dL_next_391 ?_
        refine E_if_eq (pc := 392) O 410 dL_next_392 (by decide) hf (fun hf => ?_) (fun hf => ?_)
        · exact t_b_L_next_410 O Z _ hr343 x0 x1 x3 x4 x10 hf
        · refine E_iload_n (pc := 395) O 1 dL_next_395 rfl rfl ?_
          refine E_iconst (pc := 396) O (3 : Int32) dL_next_396 (by decide) ?_
          refine E_iload (pc := 397) O dL_next_397 rfl ?_
          refine E_imul (pc := 399) O dL_next_399 ?_
          refine E_ishr (pc := 400) O dL_next_400 ?_
          refine E_bipush (pc := 401) O (7 : Int32) dL_next_401 (by decide) ?_
          refine E_iand (pc := 403) O dL_next_403 ?_
          refine E_iconst (pc := 404) O (5 : Int32) dL_next_404 (by decide) ?_
          refine E_icmp_eq (pc := 405) O 410 dL_next_405 (by decide) hf (fun hf => ?_) (fun hf => ?_)
          · exact t_b_L_next_410 O Z _ hr343 x0 x1 x3 x4 x10 hf
          · exact E_sub (L' := [none, none, none, none, none, none, none, none, none, none, none]) True.intro (t_b_L_next_408 O Z  hf)
theorem t_f_L_next_343 {K : Cx} {fr : Bool} {out : Int32} {h : MH} (O : Ok K yL_next.cls cL_next 11 (rmm 1 22 0 0)) (Z : Out K (some .int) fr (some (.int out)) h) : ∀ (n : Nat) (x0 : Int32) (x1 : Int32) (x3 : Nat) (x4 : Nat) (x10 : Int32), f_L_next_343 h n x0 x1 x3 x4 x10 = some out → EE K (fr, 0, 0) 343 [some (.int x0), some (.int x1), none, some (.ref x3), some (.ref x4), none, none, none, none, none, some (.int x10)] [] h := by
  intro n
  induction n with
  | zero => intro x0 x1 x3 x4 x10 hf; cases hf
  | succ n ih => intro x0 x1 x3 x4 x10 hf; exact t_b_L_next_343 O Z _ ih x0 x1 x3 x4 x10 hf
set_option maxHeartbeats 4000000 in
set_option maxRecDepth 100000 in
theorem t_b_L_next_243 {K : Cx} {fr : Bool} {out : Int32} {h : MH} (O : Ok K yL_next.cls cL_next 11 (rmm 1 22 0 0)) (Z : Out K (some .int) fr (some (.int out)) h) (x0 : Int32) (x1 : Int32) (x2 : Nat) (x3 : Nat) (x4 : Nat) (x5 : Int32) (x6 : Int32) (x7 : Int32) (x9 : Int32) (hf : b_L_next_243 h x0 x1 x2 x3 x4 x5 x6 x7 x9 = some out) : EE K (fr, 0, 0) 243 [some (.int x0), some (.int x1), some (.ref x2), some (.ref x3), some (.ref x4), some (.int x5), some (.int x6), some (.int x7), none, some (.int x9), none] [] h := by
  unfold b_L_next_243 at hf
  refine E_iload (pc := 243) O dL_next_243 rfl ?_
  refine E_if_lt (pc := 245) O 258 dL_next_245 (by decide) hf (fun hf => ?_) (fun hf => ?_)
  · refine E_iload (pc := 258) O dL_next_258 rfl ?_
    refine E_iconst (pc := 260) O (2 : Int32) dL_next_260 (by decide) ?_
    refine E_icmp_ne (pc := 261) O 312 dL_next_261 (by decide) hf (fun hf => ?_) (fun hf => ?_)
    · refine E_iload_n (pc := 312) O 0 dL_next_312 rfl rfl ?_
      refine E_aload_n (pc := 313) O 2 dL_next_313 rfl rfl ?_
      refine E_aload_n (pc := 314) O 3 dL_next_314 rfl rfl ?_
      refine E_callS_iP (pc := 315) (S := []) O [.int x0, .ref x2, .ref x3] CS_RailSequenceLaw_8 (fun r e => t_L_flag e) dL_next_315 hf rfl ⟨(Nat.le_of_ble_eq_true rfl), (Nat.le_of_ble_eq_true rfl)⟩ ⟨(Nat.le_of_ble_eq_true rfl), (Nat.le_of_ble_eq_true rfl)⟩ (Nat.le_of_ble_eq_true rfl) (fun v5 hf => ?_)
      refine E_if_ne (pc := 318) O 331 dL_next_318 (by decide) hf (fun hf => ?_) (fun hf => ?_)
      · refine E_iload (pc := 331) O dL_next_331 rfl ?_
        refine E_if_eq (pc := 333) O 338 dL_next_333 (by decide) hf (fun hf => ?_) (fun hf => ?_)
        · refine E_iload_n (pc := 338) O 0 dL_next_338 rfl rfl ?_
          refine E_iconst (pc := 339) O (1 : Int32) dL_next_339 (by decide) ?_
          refine E_iadd (pc := 340) O dL_next_340 ?_
          obtain ⟨v6, ev6, hf⟩ := ob hf
          have ev6 := os ev6
          rw [ev6]
          refine E_istore (pc := 341) O [some (.int x0), some (.int x1), some (.ref x2), some (.ref x3), some (.ref x4), some (.int x5), some (.int x6), some (.int x7), none, some (.int x9), some (.int v6)] dL_next_341 (by decide) rfl rfl ?_
          exact E_sub (L' := [some (.int x0), some (.int x1), none, some (.ref x3), some (.ref x4), none, none, none, none, none, some (.int v6)]) (And.intro rfl (And.intro rfl (And.intro rfl (And.intro rfl (And.intro rfl True.intro))))) (t_f_L_next_343 O Z FU x0 x1 x3 x4 v6 hf)
        · refine E_iconst (pc := 336) O (-1 : Int32) dL_next_336 (by decide) ?_
          exact E_iretP (pc := 337) O Z hf ⟨(Nat.le_of_ble_eq_true rfl), (Nat.le_of_ble_eq_true rfl)⟩ dL_next_337
      · refine E_bipush (pc := 321) O (6 : Int32) dL_next_321 (by decide) ?_
        refine E_bipush (pc := 323) O (20 : Int32) dL_next_323 (by decide) ?_
        refine E_iload_n (pc := 325) O 0 dL_next_325 rfl rfl ?_
        refine E_iconst (pc := 326) O (2 : Int32) dL_next_326 (by decide) ?_
        refine E_iadd (pc := 327) O dL_next_327 ?_
        refine E_imul (pc := 328) O dL_next_328 ?_
        refine E_iadd (pc := 329) O dL_next_329 ?_
        exact E_iretP (pc := 330) O Z hf ⟨(Nat.le_of_ble_eq_true rfl), (Nat.le_of_ble_eq_true rfl)⟩ dL_next_330
    · refine E_iload_n (pc := 264) O 0 dL_next_264 rfl rfl ?_
      refine E_aload_n (pc := 265) O 2 dL_next_265 rfl rfl ?_
      refine E_aload_n (pc := 266) O 3 dL_next_266 rfl rfl ?_
      refine E_callS_iP (pc := 267) (S := []) O [.int x0, .ref x2, .ref x3] CS_RailSequenceLaw_8 (fun r e => t_L_flag e) dL_next_267 hf rfl ⟨(Nat.le_of_ble_eq_true rfl), (Nat.le_of_ble_eq_true rfl)⟩ ⟨(Nat.le_of_ble_eq_true rfl), (Nat.le_of_ble_eq_true rfl)⟩ (Nat.le_of_ble_eq_true rfl) (fun v7 hf => ?_)
      refine E_if_eq (pc := 270) O 278 dL_next_270 (by decide) hf (fun hf => ?_) (fun hf => ?_)
      · refine E_aload_n (pc := 278) O 3 dL_next_278 rfl rfl ?_
        refine E_iload (pc := 279) O dL_next_279 rfl ?_
        refine E_bipush (pc := 281) O (6 : Int32) dL_next_281 (by decide) ?_
        refine E_iadd (pc := 283) O dL_next_283 ?_
        refine E_iaload (pc := 284) O dL_next_284 hf (fun v8 hf => ?_)
        refine E_iconst (pc := 285) O (1 : Int32) dL_next_285 (by decide) ?_
        refine E_iadd (pc := 286) O dL_next_286 ?_
        refine E_aload_n (pc := 287) O 2 dL_next_287 rfl rfl ?_
        refine E_bipush (pc := 288) O (7 : Int32) dL_next_288 (by decide) ?_
        refine E_iload_n (pc := 290) O 0 dL_next_290 rfl rfl ?_
        refine E_imul (pc := 291) O dL_next_291 ?_
        refine E_iconst (pc := 292) O (5 : Int32) dL_next_292 (by decide) ?_
        refine E_iadd (pc := 293) O dL_next_293 ?_
        refine E_iaload (pc := 294) O dL_next_294 hf (fun v9 hf => ?_)
        refine E_icmp_lt (pc := 295) O 310 dL_next_295 (by decide) hf (fun hf => ?_) (fun hf => ?_)
        · refine E_iconst (pc := 310) O (-1 : Int32) dL_next_310 (by decide) ?_
          exact E_sub (L' := [none, none, none, none, none, none, none, none, none, none, none]) True.intro (t_b_L_next_311 O Z (-1 : Int32) hf)
        · refine E_bipush (pc := 298) O (6 : Int32) dL_next_298 (by decide) ?_
          refine E_bipush (pc := 300) O (20 : Int32) dL_next_300 (by decide) ?_
          refine E_iload_n (pc := 302) O 0 dL_next_302 rfl rfl ?_
          refine E_iconst (pc := 303) O (2 : Int32) dL_next_303 (by decide) ?_
          refine E_iadd (pc := 304) O dL_next_304 ?_
          refine E_imul (pc := 305) O dL_next_305 ?_
          refine E_iadd (pc := 306) O dL_next_306 ?_
          refine E_goto (pc := 307) O 311 dL_next_307 (by decide) ?_
          exact E_sub (L' := [none, none, none, none, none, none, none, none, none, none, none]) True.intro (t_b_L_next_311 O Z ((6 : Int32) + ((20 : Int32) * (x0 + (2 : Int32)))) hf)
      · refine E_bipush (pc := 273) O (23 : Int32) dL_next_273 (by decide) ?_
        refine E_goto (pc := 275) O 311 dL_next_275 (by decide) ?_
        exact E_sub (L' := [none, none, none, none, none, none, none, none, none, none, none]) True.intro (t_b_L_next_311 O Z (23 : Int32) hf)
  · refine E_iconst (pc := 248) O (4 : Int32) dL_next_248 (by decide) ?_
    refine E_bipush (pc := 249) O (20 : Int32) dL_next_249 (by decide) ?_
    refine E_iload (pc := 251) O dL_next_251 rfl ?_
    refine E_iconst (pc := 253) O (2 : Int32) dL_next_253 (by decide) ?_
    refine E_iadd (pc := 254) O dL_next_254 ?_
    refine E_imul (pc := 255) O dL_next_255 ?_
    refine E_iadd (pc := 256) O dL_next_256 ?_
    exact E_iretP (pc := 257) O Z hf ⟨(Nat.le_of_ble_eq_true rfl), (Nat.le_of_ble_eq_true rfl)⟩ dL_next_257
set_option maxHeartbeats 4000000 in
set_option maxRecDepth 100000 in
theorem t_b_L_next_180 {K : Cx} {fr : Bool} {out : Int32} {h : MH} (O : Ok K yL_next.cls cL_next 11 (rmm 1 22 0 0)) (Z : Out K (some .int) fr (some (.int out)) h) (s0 : Int32) (hf : b_L_next_180 h s0 = some out) : EE K (fr, 0, 0) 180 [none, none, none, none, none, none, none, none, none, none, none] [.int s0] h := by
  unfold b_L_next_180 at hf
  exact E_iretP (pc := 180) O Z hf ⟨(Nat.le_of_ble_eq_true rfl), (Nat.le_of_ble_eq_true rfl)⟩ dL_next_180
set_option maxHeartbeats 4000000 in
set_option maxRecDepth 100000 in
theorem t_b_L_next_179 {K : Cx} {fr : Bool} {out : Int32} {h : MH} (O : Ok K yL_next.cls cL_next 11 (rmm 1 22 0 0)) (Z : Out K (some .int) fr (some (.int out)) h)  (hf : b_L_next_179 h  = some out) : EE K (fr, 0, 0) 179 [none, none, none, none, none, none, none, none, none, none, none] [] h := by
  unfold b_L_next_179 at hf
  refine E_iconst (pc := 179) O (-1 : Int32) dL_next_179 (by decide) ?_
  exact t_b_L_next_180 O Z (-1 : Int32) hf
set_option maxHeartbeats 4000000 in
set_option maxRecDepth 100000 in
theorem t_b_L_next_104 {K : Cx} {fr : Bool} {out : Int32} {h : MH} (O : Ok K yL_next.cls cL_next 11 (rmm 1 22 0 0)) (Z : Out K (some .int) fr (some (.int out)) h) (x0 : Int32) (x1 : Int32) (x2 : Nat) (x3 : Nat) (x4 : Nat) (x5 : Int32) (x6 : Int32) (x7 : Int32) (s0 : Int32) (hf : b_L_next_104 h x0 x1 x2 x3 x4 x5 x6 x7 s0 = some out) : EE K (fr, 0, 0) 104 [some (.int x0), some (.int x1), some (.ref x2), some (.ref x3), some (.ref x4), some (.int x5), some (.int x6), some (.int x7), none, none, none] [.int s0] h := by
  unfold b_L_next_104 at hf
  refine E_istore (pc := 104) O [some (.int x0), some (.int x1), some (.ref x2), some (.ref x3), some (.ref x4), some (.int x5), some (.int x6), some (.int x7), some (.int s0), none, none] dL_next_104 (by decide) rfl rfl ?_
  refine E_iload_n (pc := 106) O 1 dL_next_106 rfl rfl ?_
  refine E_iconst (pc := 107) O (3 : Int32) dL_next_107 (by decide) ?_
  refine E_iload_n (pc := 108) O 0 dL_next_108 rfl rfl ?_
  refine E_imul (pc := 109) O dL_next_109 ?_
  refine E_ishr (pc := 110) O dL_next_110 ?_
  refine E_bipush (pc := 111) O (7 : Int32) dL_next_111 (by decide) ?_
  refine E_iand (pc := 113) O dL_next_113 ?_
  obtain ⟨v10, ev10, hf⟩ := ob hf
  have ev10 := os ev10
  rw [ev10]
  refine E_istore (pc := 114) O [some (.int x0), some (.int x1), some (.ref x2), some (.ref x3), some (.ref x4), some (.int x5), some (.int x6), some (.int x7), some (.int s0), some (.int v10), none] dL_next_114 (by decide) rfl rfl ?_
  refine E_iload (pc := 116) O dL_next_116 rfl ?_
  refine E_if_ne (pc := 118) O 132 dL_next_118 (by decide) hf (fun hf => ?_) (fun hf => ?_)
  · refine E_iload (pc := 132) O dL_next_132 rfl ?_
    refine E_iconst (pc := 134) O (1 : Int32) dL_next_134 (by decide) ?_
    refine E_icmp_ne (pc := 135) O 181 dL_next_135 (by decide) hf (fun hf => ?_) (fun hf => ?_)
    · refine E_iload (pc := 181) O dL_next_181 rfl ?_
      refine E_iconst (pc := 183) O (4 : Int32) dL_next_183 (by decide) ?_
      refine E_icmp_ne (pc := 184) O 207 dL_next_184 (by decide) hf (fun hf => ?_) (fun hf => ?_)
      · refine E_iload (pc := 207) O dL_next_207 rfl ?_
        refine E_iconst (pc := 209) O (5 : Int32) dL_next_209 (by decide) ?_
        refine E_icmp_ne (pc := 210) O 229 dL_next_210 (by decide) hf (fun hf => ?_) (fun hf => ?_)
        · refine E_iload (pc := 229) O dL_next_229 rfl ?_
          refine E_iconst (pc := 231) O (2 : Int32) dL_next_231 (by decide) ?_
          refine E_icmp_ne (pc := 232) O 243 dL_next_232 (by decide) hf (fun hf => ?_) (fun hf => ?_)
          · exact E_sub (L' := [some (.int x0), some (.int x1), some (.ref x2), some (.ref x3), some (.ref x4), some (.int x5), some (.int x6), some (.int x7), none, some (.int v10), none]) (And.intro rfl (And.intro rfl (And.intro rfl (And.intro rfl (And.intro rfl (And.intro rfl (And.intro rfl (And.intro rfl (And.intro rfl True.intro))))))))) (t_b_L_next_243 O Z x0 x1 x2 x3 x4 x5 x6 x7 v10 hf)
          · refine E_iload (pc := 235) O dL_next_235 rfl ?_
            refine E_if_ne (pc := 237) O 243 dL_next_237 (by decide) hf (fun hf => ?_) (fun hf => ?_)
            · exact E_sub (L' := [some (.int x0), some (.int x1), some (.ref x2), some (.ref x3), some (.ref x4), some (.int x5), some (.int x6), some (.int x7), none, some (.int v10), none]) (And.intro rfl (And.intro rfl (And.intro rfl (And.intro rfl (And.intro rfl (And.intro rfl (And.intro rfl (And.intro rfl (And.intro rfl True.intro))))))))) (t_b_L_next_243 O Z x0 x1 x2 x3 x4 x5 x6 x7 v10 hf)
            · refine E_bipush (pc := 240) O (24 : Int32) dL_next_240 (by decide) ?_
              exact E_iretP (pc := 242) O Z hf ⟨(Nat.le_of_ble_eq_true rfl), (Nat.le_of_ble_eq_true rfl)⟩ dL_next_242
        · refine E_iload (pc := 213) O dL_next_213 rfl ?_
          refine E_if_ne (pc := 215) O 227 dL_next_215 (by decide) hf (fun hf => ?_) (fun hf => ?_)
          · exact E_sub (L' := [none, none, none, none, none, none, none, none, none, none, none]) True.intro (t_b_L_next_227 O Z  hf)
          · refine E_iload (pc := 218) O dL_next_218 rfl ?_
            refine E_if_eq (pc := 220) O 227 dL_next_220 (by decide) hf (fun hf => ?_) (fun hf => ?_)
            · exact E_sub (L' := [none, none, none, none, none, none, none, none, none, none, none]) True.intro (t_b_L_next_227 O Z  hf)
            · refine E_iconst (pc := 223) O (0 : Int32) dL_next_223 (by decide) ?_
              refine E_goto (pc := 224) O 228 dL_next_224 (by decide) ?_
              exact E_sub (L' := [none, none, none, none, none, none, none, none, none, none, none]) True.intro (t_b_L_next_228 O Z (0 : Int32) hf)
      · refine E_iload (pc := 187) O dL_next_187 rfl ?_
        refine E_if_ne (pc := 189) O 196 dL_next_189 (by decide) hf (fun hf => ?_) (fun hf => ?_)
        · refine E_iload (pc := 196) O dL_next_196 rfl ?_
          refine E_if_eq (pc := 198) O 205 dL_next_198 (by decide) hf (fun hf => ?_) (fun hf => ?_)
          · refine E_iconst (pc := 205) O (0 : Int32) dL_next_205 (by decide) ?_
            exact E_sub (L' := [none, none, none, none, none, none, none, none, none, none, none]) True.intro (t_b_L_next_206 O Z (0 : Int32) hf)
          · refine E_iconst (pc := 201) O (1 : Int32) dL_next_201 (by decide) ?_
            refine E_goto (pc := 202) O 206 dL_next_202 (by decide) ?_
            exact E_sub (L' := [none, none, none, none, none, none, none, none, none, none, none]) True.intro (t_b_L_next_206 O Z (1 : Int32) hf)
        · refine E_iconst (pc := 192) O (-1 : Int32) dL_next_192 (by decide) ?_
          refine E_goto (pc := 193) O 206 dL_next_193 (by decide) ?_
          exact E_sub (L' := [none, none, none, none, none, none, none, none, none, none, none]) True.intro (t_b_L_next_206 O Z (-1 : Int32) hf)
    · refine E_iload (pc := 138) O dL_next_138 rfl ?_
      refine E_if_ne (pc := 140) O 147 dL_next_140 (by decide) hf (fun hf => ?_) (fun hf => ?_)
      · refine E_iload (pc := 147) O dL_next_147 rfl ?_
        refine E_if_eq (pc := 149) O 179 dL_next_149 (by decide) hf (fun hf => ?_) (fun hf => ?_)
        · exact E_sub (L' := [none, none, none, none, none, none, none, none, none, none, none]) True.intro (t_b_L_next_179 O Z  hf)
        · refine E_iload (pc := 152) O dL_next_152 rfl ?_
          refine E_if_ge (pc := 154) O 179 dL_next_154 (by decide) hf (fun hf => ?_) (fun hf => ?_)
          · exact E_sub (L' := [none, none, none, none, none, none, none, none, none, none, none]) True.intro (t_b_L_next_179 O Z  hf)
          · refine E_aload_n (pc := 157) O 3 dL_next_157 rfl rfl ?_
            refine E_iload (pc := 158) O dL_next_158 rfl ?_
            refine E_bipush (pc := 160) O (6 : Int32) dL_next_160 (by decide) ?_
            refine E_iadd (pc := 162) O dL_next_162 ?_
            refine E_iaload (pc := 163) O dL_next_163 hf (fun v11 hf => ?_)
            refine E_aload_n (pc := 164) O 2 dL_next_164 rfl rfl ?_
            refine E_bipush (pc := 165) O (7 : Int32) dL_next_165 (by decide) ?_
            refine E_iload_n (pc := 167) O 0 dL_next_167 rfl rfl ?_
            refine E_imul (pc := 168) O dL_next_168 ?_
            refine E_iconst (pc := 169) O (4 : Int32) dL_next_169 (by decide) ?_
            refine E_iadd (pc := 170) O dL_next_170 ?_
            refine E_iaload (pc := 171) O dL_next_171 hf (fun v12 hf => ?_)
            refine E_icmp_lt (pc := 172) O 179 dL_next_172 (by decide) hf (fun hf => ?_) (fun hf => ?_)
            · exact E_sub (L' := [none, none, none, none, none, none, none, none, none, none, none]) True.intro (t_b_L_next_179 O Z  hf)
            · refine E_iconst (pc := 175) O (2 : Int32) dL_next_175 (by decide) ?_
              refine E_goto (pc := 176) O 180 dL_next_176 (by decide) ?_
              exact E_sub (L' := [none, none, none, none, none, none, none, none, none, none, none]) True.intro (t_b_L_next_180 O Z (2 : Int32) hf)
      · refine E_iconst (pc := 143) O (0 : Int32) dL_next_143 (by decide) ?_
        refine E_goto (pc := 144) O 180 dL_next_144 (by decide) ?_
        exact E_sub (L' := [none, none, none, none, none, none, none, none, none, none, none]) True.intro (t_b_L_next_180 O Z (0 : Int32) hf)
  · refine E_iload (pc := 121) O dL_next_121 rfl ?_
    refine E_if_eq (pc := 123) O 130 dL_next_123 (by decide) hf (fun hf => ?_) (fun hf => ?_)
    · refine E_iconst (pc := 130) O (-1 : Int32) dL_next_130 (by decide) ?_
      exact E_sub (L' := [none, none, none, none, none, none, none, none, none, none, none]) True.intro (t_b_L_next_131 O Z (-1 : Int32) hf)
    · refine E_iconst (pc := 126) O (1 : Int32) dL_next_126 (by decide) ?_
      refine E_goto (pc := 127) O 131 dL_next_127 (by decide) ?_
      exact E_sub (L' := [none, none, none, none, none, none, none, none, none, none, none]) True.intro (t_b_L_next_131 O Z (1 : Int32) hf)
set_option maxHeartbeats 4000000 in
set_option maxRecDepth 100000 in
theorem t_b_L_next_84 {K : Cx} {fr : Bool} {out : Int32} {h : MH} (O : Ok K yL_next.cls cL_next 11 (rmm 1 22 0 0)) (Z : Out K (some .int) fr (some (.int out)) h) (x0 : Int32) (x1 : Int32) (x2 : Nat) (x3 : Nat) (x4 : Nat) (x5 : Int32) (x6 : Int32) (s0 : Int32) (hf : b_L_next_84 h x0 x1 x2 x3 x4 x5 x6 s0 = some out) : EE K (fr, 0, 0) 84 [some (.int x0), some (.int x1), some (.ref x2), some (.ref x3), some (.ref x4), some (.int x5), some (.int x6), none, none, none, none] [.int s0] h := by
  unfold b_L_next_84 at hf
  refine E_istore (pc := 84) O [some (.int x0), some (.int x1), some (.ref x2), some (.ref x3), some (.ref x4), some (.int x5), some (.int x6), some (.int s0), none, none, none] dL_next_84 (by decide) rfl rfl ?_
  refine E_aload_n (pc := 86) O 3 dL_next_86 rfl rfl ?_
  refine E_iload (pc := 87) O dL_next_87 rfl ?_
  refine E_iconst (pc := 89) O (3 : Int32) dL_next_89 (by decide) ?_
  refine E_iadd (pc := 90) O dL_next_90 ?_
  refine E_iaload (pc := 91) O dL_next_91 hf (fun v13 hf => ?_)
  refine E_aload (pc := 92) O dL_next_92 rfl ?_
  refine E_iconst (pc := 94) O (1 : Int32) dL_next_94 (by decide) ?_
  refine E_iaload (pc := 95) O dL_next_95 hf (fun v14 hf => ?_)
  refine E_icmp_gt (pc := 96) O 103 dL_next_96 (by decide) hf (fun hf => ?_) (fun hf => ?_)
  · refine E_iconst (pc := 103) O (0 : Int32) dL_next_103 (by decide) ?_
    exact t_b_L_next_104 O Z x0 x1 x2 x3 x4 x5 x6 s0 (0 : Int32) hf
  · refine E_iconst (pc := 99) O (1 : Int32) dL_next_99 (by decide) ?_
    refine E_goto (pc := 100) O 104 dL_next_100 (by decide) ?_
    exact t_b_L_next_104 O Z x0 x1 x2 x3 x4 x5 x6 s0 (1 : Int32) hf
set_option maxHeartbeats 4000000 in
set_option maxRecDepth 100000 in
theorem t_b_L_next_69 {K : Cx} {fr : Bool} {out : Int32} {h : MH} (O : Ok K yL_next.cls cL_next 11 (rmm 1 22 0 0)) (Z : Out K (some .int) fr (some (.int out)) h) (x0 : Int32) (x1 : Int32) (x2 : Nat) (x3 : Nat) (x4 : Nat) (x5 : Int32) (x6 : Int32) (hf : b_L_next_69 h x0 x1 x2 x3 x4 x5 x6 = some out) : EE K (fr, 0, 0) 69 [some (.int x0), some (.int x1), some (.ref x2), some (.ref x3), some (.ref x4), some (.int x5), some (.int x6), none, none, none, none] [] h := by
  unfold b_L_next_69 at hf
  refine E_aload_n (pc := 69) O 3 dL_next_69 rfl rfl ?_
  refine E_iload (pc := 70) O dL_next_70 rfl ?_
  refine E_iconst (pc := 72) O (1 : Int32) dL_next_72 (by decide) ?_
  refine E_iadd (pc := 73) O dL_next_73 ?_
  refine E_iaload (pc := 74) O dL_next_74 hf (fun v15 hf => ?_)
  refine E_iconst (pc := 75) O (1 : Int32) dL_next_75 (by decide) ?_
  refine E_icmp_ne (pc := 76) O 83 dL_next_76 (by decide) hf (fun hf => ?_) (fun hf => ?_)
  · refine E_iconst (pc := 83) O (0 : Int32) dL_next_83 (by decide) ?_
    exact t_b_L_next_84 O Z x0 x1 x2 x3 x4 x5 x6 (0 : Int32) hf
  · refine E_iconst (pc := 79) O (1 : Int32) dL_next_79 (by decide) ?_
    refine E_goto (pc := 80) O 84 dL_next_80 (by decide) ?_
    exact t_b_L_next_84 O Z x0 x1 x2 x3 x4 x5 x6 (1 : Int32) hf
set_option maxHeartbeats 4000000 in
set_option maxRecDepth 100000 in
theorem t_b_L_next_12 {K : Cx} {fr : Bool} {out : Int32} {h : MH} (O : Ok K yL_next.cls cL_next 11 (rmm 1 22 0 0)) (Z : Out K (some .int) fr (some (.int out)) h) (rec12 : Int32 → Int32 → Nat → Nat → Nat → Int32 → Int32 → Int32 → Option Int32) (hr12 : ∀ (x0 : Int32) (x1 : Int32) (x2 : Nat) (x3 : Nat) (x4 : Nat) (x5 : Int32) (x6 : Int32) (x7 : Int32), rec12 x0 x1 x2 x3 x4 x5 x6 x7 = some out → EE K (fr, 0, 0) 12 [some (.int x0), some (.int x1), some (.ref x2), some (.ref x3), some (.ref x4), some (.int x5), some (.int x6), some (.int x7), none, none, none] [] h) (x0 : Int32) (x1 : Int32) (x2 : Nat) (x3 : Nat) (x4 : Nat) (x5 : Int32) (x6 : Int32) (x7 : Int32) (hf : b_L_next_12 h rec12 x0 x1 x2 x3 x4 x5 x6 x7 = some out) : EE K (fr, 0, 0) 12 [some (.int x0), some (.int x1), some (.ref x2), some (.ref x3), some (.ref x4), some (.int x5), some (.int x6), some (.int x7), none, none, none] [] h := by
  unfold b_L_next_12 at hf
  refine E_iload (pc := 12) O dL_next_12 rfl ?_
  refine E_iload_n (pc := 14) O 0 dL_next_14 rfl rfl ?_
  refine E_icmp_ge (pc := 15) O 69 dL_next_15 (by decide) hf (fun hf => ?_) (fun hf => ?_)
  · exact E_sub (L' := [some (.int x0), some (.int x1), some (.ref x2), some (.ref x3), some (.ref x4), some (.int x5), some (.int x6), none, none, none, none]) (And.intro rfl (And.intro rfl (And.intro rfl (And.intro rfl (And.intro rfl (And.intro rfl (And.intro rfl True.intro))))))) (t_b_L_next_69 O Z x0 x1 x2 x3 x4 x5 x6 hf)
  · refine E_iload (pc := 18) O dL_next_18 rfl ?_
    refine E_if_ge (pc := 20) O 69 dL_next_20 (by decide) hf (fun hf => ?_) (fun hf => ?_)
    · exact E_sub (L' := [some (.int x0), some (.int x1), some (.ref x2), some (.ref x3), some (.ref x4), some (.int x5), some (.int x6), none, none, none, none]) (And.intro rfl (And.intro rfl (And.intro rfl (And.intro rfl (And.intro rfl (And.intro rfl (And.intro rfl True.intro))))))) (t_b_L_next_69 O Z x0 x1 x2 x3 x4 x5 x6 hf)
    · refine E_aload_n (pc := 23) O 3 dL_next_23 rfl rfl ?_
      refine E_iload (pc := 24) O dL_next_24 rfl ?_
      refine E_iaload (pc := 26) O dL_next_26 hf (fun v16 hf => ?_)
      refine E_iload (pc := 27) O dL_next_27 rfl ?_
      refine E_ishr (pc := 29) O dL_next_29 ?_
      refine E_iconst (pc := 30) O (1 : Int32) dL_next_30 (by decide) ?_
      refine E_iand (pc := 31) O dL_next_31 ?_
      refine E_iconst (pc := 32) O (1 : Int32) dL_next_32 (by decide) ?_
      refine E_icmp_ne (pc := 33) O 63 dL_next_33 (by decide) hf (fun hf => ?_) (fun hf => ?_)
      · exact t_b_L_next_63 O Z _ hr12 x0 x1 x2 x3 x4 x5 x6 x7 hf
      · refine E_iload_n (pc := 36) O 1 dL_next_36 rfl rfl ?_
        refine E_iconst (pc := 37) O (3 : Int32) dL_next_37 (by decide) ?_
        refine E_iload (pc := 38) O dL_next_38 rfl ?_
        refine E_imul (pc := 40) O dL_next_40 ?_
        refine E_ishr (pc := 41) O dL_next_41 ?_
        refine E_bipush (pc := 42) O (7 : Int32) dL_next_42 (by decide) ?_
        refine E_iand (pc := 44) O dL_next_44 ?_
        refine E_iconst (pc := 45) O (3 : Int32) dL_next_45 (by decide) ?_
        refine E_icmp_ne (pc := 46) O 59 dL_next_46 (by decide) hf (fun hf => ?_) (fun hf => ?_)
        · exact E_sub (L' := [some (.int x0), some (.int x1), some (.ref x2), some (.ref x3), some (.ref x4), some (.int x5), none, some (.int x7), none, none, none]) (And.intro rfl (And.intro rfl (And.intro rfl (And.intro rfl (And.intro rfl (And.intro rfl (And.intro rfl True.intro))))))) (t_b_L_next_59 O Z _ hr12 x0 x1 x2 x3 x4 x5 x7 hf)
        · refine E_iload (pc := 49) O dL_next_49 rfl ?_
          refine E_aload_n (pc := 51) O 2 dL_next_51 rfl rfl ?_
          refine E_aload_n (pc := 52) O 3 dL_next_52 rfl rfl ?_
          refine E_callS_iP (pc := 53) (S := []) O [.int x7, .ref x2, .ref x3] CS_RailSequenceLaw_8 (fun r e => t_L_flag e) dL_next_53 hf rfl ⟨(Nat.le_of_ble_eq_true rfl), (Nat.le_of_ble_eq_true rfl)⟩ ⟨(Nat.le_of_ble_eq_true rfl), (Nat.le_of_ble_eq_true rfl)⟩ (Nat.le_of_ble_eq_true rfl) (fun v17 hf => ?_)
          refine E_if_ne (pc := 56) O 63 dL_next_56 (by decide) hf (fun hf => ?_) (fun hf => ?_)
          · exact t_b_L_next_63 O Z _ hr12 x0 x1 x2 x3 x4 x5 x6 x7 hf
          · exact E_sub (L' := [some (.int x0), some (.int x1), some (.ref x2), some (.ref x3), some (.ref x4), some (.int x5), none, some (.int x7), none, none, none]) (And.intro rfl (And.intro rfl (And.intro rfl (And.intro rfl (And.intro rfl (And.intro rfl (And.intro rfl True.intro))))))) (t_b_L_next_59 O Z _ hr12 x0 x1 x2 x3 x4 x5 x7 hf)
theorem t_f_L_next_12 {K : Cx} {fr : Bool} {out : Int32} {h : MH} (O : Ok K yL_next.cls cL_next 11 (rmm 1 22 0 0)) (Z : Out K (some .int) fr (some (.int out)) h) : ∀ (n : Nat) (x0 : Int32) (x1 : Int32) (x2 : Nat) (x3 : Nat) (x4 : Nat) (x5 : Int32) (x6 : Int32) (x7 : Int32), f_L_next_12 h n x0 x1 x2 x3 x4 x5 x6 x7 = some out → EE K (fr, 0, 0) 12 [some (.int x0), some (.int x1), some (.ref x2), some (.ref x3), some (.ref x4), some (.int x5), some (.int x6), some (.int x7), none, none, none] [] h := by
  intro n
  induction n with
  | zero => intro x0 x1 x2 x3 x4 x5 x6 x7 hf; cases hf
  | succ n ih => intro x0 x1 x2 x3 x4 x5 x6 x7 hf; exact t_b_L_next_12 O Z _ ih x0 x1 x2 x3 x4 x5 x6 x7 hf
set_option maxHeartbeats 4000000 in
set_option maxRecDepth 100000 in
theorem t_L_next {g : Gx} {fr : Bool} {h : MH} {x0 x1 x2 x3 x4} {out : Int32} (hf : f_L_next h x0 x1 x2 x3 x4 = some out) : MM g yL_next cL_next 11 (some .int) 1 22 0 0 fr fr [.int x0, .int x1, .ref x2, .ref x3, .ref x4] h (some (.int out)) h := by
  unfold f_L_next at hf
  refine MM_of (L := [some (.int x0), some (.int x1), some (.ref x2), some (.ref x3), some (.ref x4), none, none, none, none, none, none]) (by decide) (Nat.le_of_ble_eq_true rfl) rfl (fun K hK O Z hn => ?_)
  refine E_bipush (pc := 0) O (9 : Int32) dL_next_0 (by decide) ?_
  refine E_iload_n (pc := 2) O 0 dL_next_2 rfl rfl ?_
  refine E_imul (pc := 3) O dL_next_3 ?_
  obtain ⟨v18, ev18, hf⟩ := ob hf
  have ev18 := os ev18
  rw [ev18]
  refine E_istore (pc := 4) O [some (.int x0), some (.int x1), some (.ref x2), some (.ref x3), some (.ref x4), some (.int v18), none, none, none, none, none] dL_next_4 (by decide) rfl rfl ?_
  refine E_iconst (pc := 6) O (-1 : Int32) dL_next_6 (by decide) ?_
  refine E_istore (pc := 7) O [some (.int x0), some (.int x1), some (.ref x2), some (.ref x3), some (.ref x4), some (.int v18), some (.int (-1 : Int32)), none, none, none, none] dL_next_7 (by decide) rfl rfl ?_
  refine E_iconst (pc := 9) O (0 : Int32) dL_next_9 (by decide) ?_
  refine E_istore (pc := 10) O [some (.int x0), some (.int x1), some (.ref x2), some (.ref x3), some (.ref x4), some (.int v18), some (.int (-1 : Int32)), some (.int (0 : Int32)), none, none, none] dL_next_10 (by decide) rfl rfl ?_
  exact t_f_L_next_12 O Z FU x0 x1 x2 x3 x4 v18 (-1 : Int32) (0 : Int32) hf
