/-! walks: the machine does what the plain functions say: written by program -/
set_option maxHeartbeats 4000000 in
set_option maxRecDepth 100000 in
theorem t_b_X4_takesDigit_90 {K : Cx} {fr : Bool} {out : (Int32 × MH)} (O : Ok K yX4_takesDigit.cls cX4_takesDigit 6 (rmm 0 0 0 0)) (Z : Out K (some .boolean) fr (some (.int out.1)) out.2) (h : MH) (x3 : Int32) (s0 : Nat) (s1 : Int32) (s2 : Int32) (hf : b_X4_takesDigit_90 h x3 s0 s1 s2 = some out) : EE K (fr, 0, 0) 90 [none, none, none, some (.int x3), none, none] [.int s2, .int s1, .ref s0] h := by
  unfold b_X4_takesDigit_90 at hf
  refine E_iadd (pc := 90) O dX4_takesDigit_90 ?_
  refine E_put (pc := 91) O FN_RailSequenceModel_141 rfl rfl dX4_takesDigit_91 hf (fun h1 hf => ?_)
  refine E_iload_n (pc := 94) O 3 dX4_takesDigit_94 rfl rfl ?_
  exact E_zret (pc := 95) O Z hf ⟨(Nat.le_of_ble_eq_true rfl), (Nat.le_of_ble_eq_true rfl)⟩ dX4_takesDigit_95
set_option maxHeartbeats 4000000 in
set_option maxRecDepth 100000 in
theorem t_b_X4_takesDigit_73 {K : Cx} {fr : Bool} {out : (Int32 × MH)} (O : Ok K yX4_takesDigit.cls cX4_takesDigit 6 (rmm 0 0 0 0)) (Z : Out K (some .boolean) fr (some (.int out.1)) out.2) (h : MH) (x0 : Nat) (x3 : Int32) (s0 : Nat) (s1 : Int32) (hf : b_X4_takesDigit_73 h x0 x3 s0 s1 = some out) : EE K (fr, 0, 0) 73 [some (.ref x0), none, none, some (.int x3), none, none] [.int s1, .ref s0] h := by
  unfold b_X4_takesDigit_73 at hf
  refine E_put (pc := 73) O FN_RailSequenceModel_144 rfl rfl dX4_takesDigit_73 hf (fun h2 hf => ?_)
  refine E_aload_n (pc := 76) O 0 dX4_takesDigit_76 rfl rfl ?_
  refine E_dup (pc := 77) O dX4_takesDigit_77 rfl ?_
  refine E_getI (pc := 78) O FL_RailSequenceModel_141 dX4_takesDigit_78 hf (fun v3 hf => ?_)
  refine E_iload_n (pc := 81) O 3 dX4_takesDigit_81 rfl rfl ?_
  refine E_if_eq (pc := 82) O 89 dX4_takesDigit_82 (by decide) hf (fun hf => ?_) (fun hf => ?_)
  · refine E_iconst (pc := 89) O (0 : Int32) dX4_takesDigit_89 (by decide) ?_
    exact E_sub (L' := [none, none, none, some (.int x3), none, none]) (And.intro rfl True.intro) (t_b_X4_takesDigit_90 O Z h2 x3 x0 v3 (0 : Int32) hf)
  · refine E_iconst (pc := 85) O (1 : Int32) dX4_takesDigit_85 (by decide) ?_
    refine E_goto (pc := 86) O 90 dX4_takesDigit_86 (by decide) ?_
    exact E_sub (L' := [none, none, none, some (.int x3), none, none]) (And.intro rfl True.intro) (t_b_X4_takesDigit_90 O Z h2 x3 x0 v3 (1 : Int32) hf)
set_option maxHeartbeats 4000000 in
set_option maxRecDepth 100000 in
theorem t_b_X4_takesDigit_58 {K : Cx} {fr : Bool} {out : (Int32 × MH)} (O : Ok K yX4_takesDigit.cls cX4_takesDigit 6 (rmm 0 0 0 0)) (Z : Out K (some .boolean) fr (some (.int out.1)) out.2) (h : MH) (x0 : Nat) (x1 : Int32) (x3 : Int32) (s0 : Nat) (s1 : Int32) (s2 : Int32) (s3 : Int32) (hf : b_X4_takesDigit_58 h x0 x1 x3 s0 s1 s2 s3 = some out) : EE K (fr, 0, 0) 58 [some (.ref x0), some (.int x1), none, some (.int x3), none, none] [.int s3, .int s2, .int s1, .ref s0] h := by
  unfold b_X4_takesDigit_58 at hf
  refine E_ior (pc := 58) O dX4_takesDigit_58 ?_
  refine E_iastore (pc := 59) O dX4_takesDigit_59 hf (fun h4 hf => ?_)
  refine E_aload_n (pc := 60) O 0 dX4_takesDigit_60 rfl rfl ?_
  refine E_iload_n (pc := 61) O 3 dX4_takesDigit_61 rfl rfl ?_
  refine E_if_eq (pc := 62) O 69 dX4_takesDigit_62 (by decide) hf (fun hf => ?_) (fun hf => ?_)
  · refine E_aload_n (pc := 69) O 0 dX4_takesDigit_69 rfl rfl ?_
    refine E_getI (pc := 70) O FL_RailSequenceModel_144 dX4_takesDigit_70 hf (fun v5 hf => ?_)
    exact E_sub (L' := [some (.ref x0), none, none, some (.int x3), none, none]) (And.intro rfl (And.intro rfl True.intro)) (t_b_X4_takesDigit_73 O Z h4 x0 x3 x0 v5 hf)
  · refine E_iload_n (pc := 65) O 1 dX4_takesDigit_65 rfl rfl ?_
    refine E_goto (pc := 66) O 73 dX4_takesDigit_66 (by decide) ?_
    exact E_sub (L' := [some (.ref x0), none, none, some (.int x3), none, none]) (And.intro rfl (And.intro rfl True.intro)) (t_b_X4_takesDigit_73 O Z h4 x0 x3 x0 x1 hf)
set_option maxHeartbeats 4000000 in
set_option maxRecDepth 100000 in
theorem t_b_X4_takesDigit_39 {K : Cx} {fr : Bool} {out : (Int32 × MH)} (O : Ok K yX4_takesDigit.cls cX4_takesDigit 6 (rmm 0 0 0 0)) (Z : Out K (some .boolean) fr (some (.int out.1)) out.2) (h : MH) (x0 : Nat) (x1 : Int32) (x2 : Int32) (s0 : Int32) (hf : b_X4_takesDigit_39 h x0 x1 x2 s0 = some out) : EE K (fr, 0, 0) 39 [some (.ref x0), some (.int x1), some (.int x2), none, none, none] [.int s0] h := by
  unfold b_X4_takesDigit_39 at hf
  refine E_istore_n (pc := 39) O 3 [some (.ref x0), some (.int x1), some (.int x2), some (.int s0), none, none] dX4_takesDigit_39 rfl (by decide) rfl rfl ?_
  refine E_aload_n (pc := 40) O 0 dX4_takesDigit_40 rfl rfl ?_
  refine E_getR (pc := 41) O FL_RailSequenceModel_25 dX4_takesDigit_41 hf (fun v6 hf => ?_)
  refine E_iload_n (pc := 44) O 2 dX4_takesDigit_44 rfl rfl ?_
  refine E_dup2 (pc := 45) O dX4_takesDigit_45 rfl rfl ?_
  refine E_iaload (pc := 46) O dX4_takesDigit_46 hf (fun v7 hf => ?_)
  refine E_iload_n (pc := 47) O 3 dX4_takesDigit_47 rfl rfl ?_
  refine E_if_eq (pc := 48) O 57 dX4_takesDigit_48 (by decide) hf (fun hf => ?_) (fun hf => ?_)
  · refine E_iconst (pc := 57) O (0 : Int32) dX4_takesDigit_57 (by decide) ?_
    exact E_sub (L' := [some (.ref x0), some (.int x1), none, some (.int s0), none, none]) (And.intro rfl (And.intro rfl (And.intro rfl True.intro))) (t_b_X4_takesDigit_58 O Z h x0 x1 s0 v6 x2 v7 (0 : Int32) hf)
  · refine E_iconst (pc := 51) O (1 : Int32) dX4_takesDigit_51 (by decide) ?_
    refine E_iload_n (pc := 52) O 1 dX4_takesDigit_52 rfl rfl ?_
    refine E_ishl (pc := 53) O dX4_takesDigit_53 ?_
    refine E_goto (pc := 54) O 58 dX4_takesDigit_54 (by decide) ?_
    exact E_sub (L' := [some (.ref x0), some (.int x1), none, some (.int s0), none, none]) (And.intro rfl (And.intro rfl (And.intro rfl True.intro))) (t_b_X4_takesDigit_58 O Z h x0 x1 s0 v6 x2 v7 ((1 : Int32) <<< (x1 &&& 31)) hf)
set_option maxHeartbeats 4000000 in
set_option maxRecDepth 100000 in
theorem t_b_X4_takesDigit_38 {K : Cx} {fr : Bool} {out : (Int32 × MH)} (O : Ok K yX4_takesDigit.cls cX4_takesDigit 6 (rmm 0 0 0 0)) (Z : Out K (some .boolean) fr (some (.int out.1)) out.2) (h : MH) (x0 : Nat) (x1 : Int32) (x2 : Int32) (hf : b_X4_takesDigit_38 h x0 x1 x2 = some out) : EE K (fr, 0, 0) 38 [some (.ref x0), some (.int x1), some (.int x2), none, none, none] [] h := by
  unfold b_X4_takesDigit_38 at hf
  refine E_iconst (pc := 38) O (0 : Int32) dX4_takesDigit_38 (by decide) ?_
  exact t_b_X4_takesDigit_39 O Z h x0 x1 x2 (0 : Int32) hf
set_option maxHeartbeats 4000000 in
set_option maxRecDepth 100000 in
theorem t_b_X4_takesDigit_181 {K : Cx} {fr : Bool} {out : (Int32 × MH)} (O : Ok K yX4_takesDigit.cls cX4_takesDigit 6 (rmm 0 0 0 0)) (Z : Out K (some .boolean) fr (some (.int out.1)) out.2) (h : MH) (x5 : Int32) (s0 : Nat) (s1 : Int32) (s2 : Int32) (hf : b_X4_takesDigit_181 h x5 s0 s1 s2 = some out) : EE K (fr, 0, 0) 181 [none, none, none, none, none, some (.int x5)] [.int s2, .int s1, .ref s0] h := by
  unfold b_X4_takesDigit_181 at hf
  refine E_iadd (pc := 181) O dX4_takesDigit_181 ?_
  refine E_put (pc := 182) O FN_RailSequenceModel_141 rfl rfl dX4_takesDigit_182 hf (fun h8 hf => ?_)
  refine E_iload (pc := 185) O dX4_takesDigit_185 rfl ?_
  exact E_zret (pc := 187) O Z hf ⟨(Nat.le_of_ble_eq_true rfl), (Nat.le_of_ble_eq_true rfl)⟩ dX4_takesDigit_187
set_option maxHeartbeats 4000000 in
set_option maxRecDepth 100000 in
theorem t_b_X4_takesDigit_165 {K : Cx} {fr : Bool} {out : (Int32 × MH)} (O : Ok K yX4_takesDigit.cls cX4_takesDigit 6 (rmm 0 0 0 0)) (Z : Out K (some .boolean) fr (some (.int out.1)) out.2) (h : MH) (x0 : Nat) (x5 : Int32) (s0 : Nat) (s1 : Int32) (s2 : Int32) (hf : b_X4_takesDigit_165 h x0 x5 s0 s1 s2 = some out) : EE K (fr, 0, 0) 165 [some (.ref x0), none, none, none, none, some (.int x5)] [.int s2, .int s1, .ref s0] h := by
  unfold b_X4_takesDigit_165 at hf
  refine E_iastore (pc := 165) O dX4_takesDigit_165 hf (fun h9 hf => ?_)
  refine E_aload_n (pc := 166) O 0 dX4_takesDigit_166 rfl rfl ?_
  refine E_dup (pc := 167) O dX4_takesDigit_167 rfl ?_
  refine E_getI (pc := 168) O FL_RailSequenceModel_141 dX4_takesDigit_168 hf (fun v10 hf => ?_)
  refine E_iload (pc := 171) O dX4_takesDigit_171 rfl ?_
  refine E_if_eq (pc := 173) O 180 dX4_takesDigit_173 (by decide) hf (fun hf => ?_) (fun hf => ?_)
  · refine E_iconst (pc := 180) O (0 : Int32) dX4_takesDigit_180 (by decide) ?_
    exact E_sub (L' := [none, none, none, none, none, some (.int x5)]) (And.intro rfl True.intro) (t_b_X4_takesDigit_181 O Z h9 x5 x0 v10 (0 : Int32) hf)
  · refine E_iconst (pc := 176) O (1 : Int32) dX4_takesDigit_176 (by decide) ?_
    refine E_goto (pc := 177) O 181 dX4_takesDigit_177 (by decide) ?_
    exact E_sub (L' := [none, none, none, none, none, some (.int x5)]) (And.intro rfl True.intro) (t_b_X4_takesDigit_181 O Z h9 x5 x0 v10 (1 : Int32) hf)
set_option maxHeartbeats 4000000 in
set_option maxRecDepth 100000 in
theorem t_b_X4_takesDigit_142 {K : Cx} {fr : Bool} {out : (Int32 × MH)} (O : Ok K yX4_takesDigit.cls cX4_takesDigit 6 (rmm 0 0 0 0)) (Z : Out K (some .boolean) fr (some (.int out.1)) out.2) (h : MH) (x0 : Nat) (x2 : Int32) (x4 : Int32) (s0 : Int32) (hf : b_X4_takesDigit_142 h x0 x2 x4 s0 = some out) : EE K (fr, 0, 0) 142 [some (.ref x0), none, some (.int x2), none, some (.int x4), none] [.int s0] h := by
  unfold b_X4_takesDigit_142 at hf
  refine E_istore (pc := 142) O [some (.ref x0), none, some (.int x2), none, some (.int x4), some (.int s0)] dX4_takesDigit_142 (by decide) rfl rfl ?_
  refine E_aload_n (pc := 144) O 0 dX4_takesDigit_144 rfl rfl ?_
  refine E_getR (pc := 145) O FL_RailSequenceModel_25 dX4_takesDigit_145 hf (fun v11 hf => ?_)
  refine E_iload_n (pc := 148) O 2 dX4_takesDigit_148 rfl rfl ?_
  refine E_iload (pc := 149) O dX4_takesDigit_149 rfl ?_
  refine E_if_eq (pc := 151) O 159 dX4_takesDigit_151 (by decide) hf (fun hf => ?_) (fun hf => ?_)
  · refine E_aload_n (pc := 159) O 0 dX4_takesDigit_159 rfl rfl ?_
    refine E_getR (pc := 160) O FL_RailSequenceModel_25 dX4_takesDigit_160 hf (fun v12 hf => ?_)
    refine E_iload_n (pc := 163) O 2 dX4_takesDigit_163 rfl rfl ?_
    refine E_iaload (pc := 164) O dX4_takesDigit_164 hf (fun v13 hf => ?_)
    exact E_sub (L' := [some (.ref x0), none, none, none, none, some (.int s0)]) (And.intro rfl (And.intro rfl True.intro)) (t_b_X4_takesDigit_165 O Z h x0 s0 v11 x2 v13 hf)
  · refine E_iload (pc := 154) O dX4_takesDigit_154 rfl ?_
    refine E_goto (pc := 156) O 165 dX4_takesDigit_156 (by decide) ?_
    exact E_sub (L' := [some (.ref x0), none, none, none, none, some (.int s0)]) (And.intro rfl (And.intro rfl True.intro)) (t_b_X4_takesDigit_165 O Z h x0 s0 v11 x2 x4 hf)
set_option maxHeartbeats 4000000 in
set_option maxRecDepth 100000 in
theorem t_b_X4_takesDigit_141 {K : Cx} {fr : Bool} {out : (Int32 × MH)} (O : Ok K yX4_takesDigit.cls cX4_takesDigit 6 (rmm 0 0 0 0)) (Z : Out K (some .boolean) fr (some (.int out.1)) out.2) (h : MH) (x0 : Nat) (x2 : Int32) (x4 : Int32) (hf : b_X4_takesDigit_141 h x0 x2 x4 = some out) : EE K (fr, 0, 0) 141 [some (.ref x0), none, some (.int x2), none, some (.int x4), none] [] h := by
  unfold b_X4_takesDigit_141 at hf
  refine E_iconst (pc := 141) O (0 : Int32) dX4_takesDigit_141 (by decide) ?_
  exact t_b_X4_takesDigit_142 O Z h x0 x2 x4 (0 : Int32) hf
set_option maxHeartbeats 4000000 in
set_option maxRecDepth 100000 in
theorem t_b_X4_takesDigit_112 {K : Cx} {fr : Bool} {out : (Int32 × MH)} (O : Ok K yX4_takesDigit.cls cX4_takesDigit 6 (rmm 0 0 0 0)) (Z : Out K (some .boolean) fr (some (.int out.1)) out.2) (h : MH) (x0 : Nat) (x1 : Int32) (x2 : Int32) (s0 : Int32) (hf : b_X4_takesDigit_112 h x0 x1 x2 s0 = some out) : EE K (fr, 0, 0) 112 [some (.ref x0), some (.int x1), some (.int x2), none, none, none] [.int s0] h := by
  unfold b_X4_takesDigit_112 at hf
  refine E_istore_n (pc := 112) O 3 [some (.ref x0), some (.int x1), some (.int x2), some (.int s0), none, none] dX4_takesDigit_112 rfl (by decide) rfl rfl ?_
  refine E_bipush (pc := 113) O (10 : Int32) dX4_takesDigit_113 (by decide) ?_
  refine E_aload_n (pc := 115) O 0 dX4_takesDigit_115 rfl rfl ?_
  refine E_getR (pc := 116) O FL_RailSequenceModel_25 dX4_takesDigit_116 hf (fun v14 hf => ?_)
  refine E_iload_n (pc := 119) O 2 dX4_takesDigit_119 rfl rfl ?_
  refine E_iaload (pc := 120) O dX4_takesDigit_120 hf (fun v15 hf => ?_)
  refine E_imul (pc := 121) O dX4_takesDigit_121 ?_
  refine E_iload_n (pc := 122) O 1 dX4_takesDigit_122 rfl rfl ?_
  refine E_iadd (pc := 123) O dX4_takesDigit_123 ?_
  obtain ⟨v16, ev16, hf⟩ := ob hf
  have ev16 := os ev16
  rw [ev16]
  refine E_istore (pc := 124) O [some (.ref x0), some (.int x1), some (.int x2), some (.int s0), some (.int v16), none] dX4_takesDigit_124 (by decide) rfl rfl ?_
  refine E_iload (pc := 126) O dX4_takesDigit_126 rfl ?_
  refine E_if_le (pc := 128) O 141 dX4_takesDigit_128 (by decide) hf (fun hf => ?_) (fun hf => ?_)
  · exact E_sub (L' := [some (.ref x0), none, some (.int x2), none, some (.int v16), none]) (And.intro rfl (And.intro rfl (And.intro rfl True.intro))) (t_b_X4_takesDigit_141 O Z h x0 x2 v16 hf)
  · refine E_iload (pc := 131) O dX4_takesDigit_131 rfl ?_
    refine E_iload_n (pc := 133) O 3 dX4_takesDigit_133 rfl rfl ?_
    refine E_icmp_gt (pc := 134) O 141 dX4_takesDigit_134 (by decide) hf (fun hf => ?_) (fun hf => ?_)
    · exact E_sub (L' := [some (.ref x0), none, some (.int x2), none, some (.int v16), none]) (And.intro rfl (And.intro rfl (And.intro rfl True.intro))) (t_b_X4_takesDigit_141 O Z h x0 x2 v16 hf)
    · refine E_iconst (pc := 137) O (1 : Int32) dX4_takesDigit_137 (by decide) ?_
      refine E_goto (pc := 138) O 142 dX4_takesDigit_138 (by decide) ?_
      exact E_sub (L' := [some (.ref x0), none, some (.int x2), none, some (.int v16), none]) (And.intro rfl (And.intro rfl (And.intro rfl True.intro))) (t_b_X4_takesDigit_142 O Z h x0 x2 v16 (1 : Int32) hf)
set_option maxHeartbeats 4000000 in
set_option maxRecDepth 100000 in
theorem t_X4_takesDigit {g : Gx} {fr : Bool} {h : MH} {x0 x1} {out : (Int32 × MH)} (hf : f_X4_takesDigit h x0 x1 = some out) : MM g yX4_takesDigit cX4_takesDigit 6 (some .boolean) 0 0 0 0 fr fr [.ref x0, .int x1] h (some (.int out.1)) out.2 := by
  unfold f_X4_takesDigit at hf
  refine MM_of (L := [some (.ref x0), some (.int x1), none, none, none, none]) (by decide) (Nat.le_of_ble_eq_true rfl) rfl (fun K hK O Z hn => ?_)
  refine E_iconst (pc := 0) O (4 : Int32) dX4_takesDigit_0 (by decide) ?_
  refine E_aload_n (pc := 1) O 0 dX4_takesDigit_1 rfl rfl ?_
  refine E_getI (pc := 2) O FL_RailSequenceModel_147 dX4_takesDigit_2 hf (fun v17 hf => ?_)
  refine E_imul (pc := 5) O dX4_takesDigit_5 ?_
  refine E_aload_n (pc := 6) O 0 dX4_takesDigit_6 rfl rfl ?_
  refine E_getI (pc := 7) O FL_RailSequenceModel_138 dX4_takesDigit_7 hf (fun v18 hf => ?_)
  refine E_iadd (pc := 10) O dX4_takesDigit_10 ?_
  obtain ⟨v19, ev19, hf⟩ := ob hf
  have ev19 := os ev19
  rw [ev19]
  refine E_istore_n (pc := 11) O 2 [some (.ref x0), some (.int x1), some (.int v19), none, none, none] dX4_takesDigit_11 rfl (by decide) rfl rfl ?_
  refine E_aload_n (pc := 12) O 0 dX4_takesDigit_12 rfl rfl ?_
  refine E_getI (pc := 13) O FL_RailSequenceModel_138 dX4_takesDigit_13 hf (fun v20 hf => ?_)
  refine E_iconst (pc := 16) O (3 : Int32) dX4_takesDigit_16 (by decide) ?_
  refine E_icmp_ne (pc := 17) O 96 dX4_takesDigit_17 (by decide) hf (fun hf => ?_) (fun hf => ?_)
  · refine E_aload_n (pc := 96) O 0 dX4_takesDigit_96 rfl rfl ?_
    refine E_getI (pc := 97) O FL_RailSequenceModel_138 dX4_takesDigit_97 hf (fun v21 hf => ?_)
    refine E_if_ne (pc := 100) O 109 dX4_takesDigit_100 (by decide) hf (fun hf => ?_) (fun hf => ?_)
    · refine E_sipush (pc := 109) O (1000 : Int32) dX4_takesDigit_109 (by decide) ?_
      exact t_b_X4_takesDigit_112 O Z h x0 x1 v19 (1000 : Int32) hf
    · refine E_sipush (pc := 103) O (5000 : Int32) dX4_takesDigit_103 (by decide) ?_
      refine E_goto (pc := 106) O 112 dX4_takesDigit_106 (by decide) ?_
      exact t_b_X4_takesDigit_112 O Z h x0 x1 v19 (5000 : Int32) hf
  · refine E_iload_n (pc := 20) O 1 dX4_takesDigit_20 rfl rfl ?_
    refine E_aload_n (pc := 21) O 0 dX4_takesDigit_21 rfl rfl ?_
    refine E_getI (pc := 22) O FL_RailSequenceModel_144 dX4_takesDigit_22 hf (fun v22 hf => ?_)
    refine E_icmp_le (pc := 25) O 38 dX4_takesDigit_25 (by decide) hf (fun hf => ?_) (fun hf => ?_)
    · exact t_b_X4_takesDigit_38 O Z h x0 x1 v19 hf
    · refine E_iload_n (pc := 28) O 1 dX4_takesDigit_28 rfl rfl ?_
      refine E_bipush (pc := 29) O (7 : Int32) dX4_takesDigit_29 (by decide) ?_
      refine E_icmp_ge (pc := 31) O 38 dX4_takesDigit_31 (by decide) hf (fun hf => ?_) (fun hf => ?_)
      · exact t_b_X4_takesDigit_38 O Z h x0 x1 v19 hf
      · refine E_iconst (pc := 34) O (1 : Int32) dX4_takesDigit_34 (by decide) ?_
        refine E_goto (pc := 35) O 39 dX4_takesDigit_35 (by decide) ?_
        exact t_b_X4_takesDigit_39 O Z h x0 x1 v19 (1 : Int32) hf
set_option maxHeartbeats 4000000 in
set_option maxRecDepth 100000 in
theorem t_b_X4_isNumberOver_43 {K : Cx} {fr : Bool} {out : Int32} {h : MH} (O : Ok K yX4_isNumberOver.cls cX4_isNumberOver 1 (rmm 1 20 0 0)) (Z : Out K (some .boolean) fr (some (.int out)) h) (s0 : Int32) (hf : b_X4_isNumberOver_43 h s0 = some out) : EE K (fr, 0, 0) 43 [none] [.int s0] h := by
  unfold b_X4_isNumberOver_43 at hf
  exact E_zretP (pc := 43) O Z hf ⟨(Nat.le_of_ble_eq_true rfl), (Nat.le_of_ble_eq_true rfl)⟩ dX4_isNumberOver_43
set_option maxHeartbeats 4000000 in
set_option maxRecDepth 100000 in
theorem t_b_X4_isNumberOver_42 {K : Cx} {fr : Bool} {out : Int32} {h : MH} (O : Ok K yX4_isNumberOver.cls cX4_isNumberOver 1 (rmm 1 20 0 0)) (Z : Out K (some .boolean) fr (some (.int out)) h)  (hf : b_X4_isNumberOver_42 h  = some out) : EE K (fr, 0, 0) 42 [none] [] h := by
  unfold b_X4_isNumberOver_42 at hf
  refine E_iconst (pc := 42) O (0 : Int32) dX4_isNumberOver_42 (by decide) ?_
  exact t_b_X4_isNumberOver_43 O Z (0 : Int32) hf
set_option maxHeartbeats 4000000 in
set_option maxRecDepth 100000 in
theorem t_X4_isNumberOver {g : Gx} {fr : Bool} {h : MH} {x0} {out : Int32} (hf : f_X4_isNumberOver h x0 = some out) : MM g yX4_isNumberOver cX4_isNumberOver 1 (some .boolean) 1 20 0 0 fr fr [.ref x0] h (some (.int out)) h := by
  unfold f_X4_isNumberOver at hf
  refine MM_of (L := [some (.ref x0)]) (by decide) (Nat.le_of_ble_eq_true rfl) rfl (fun K hK O Z hn => ?_)
  refine E_aload_n (pc := 0) O 0 dX4_isNumberOver_0 rfl rfl ?_
  refine E_getI (pc := 1) O FL_RailSequenceModel_138 dX4_isNumberOver_1 hf (fun v1 hf => ?_)
  refine E_iconst (pc := 4) O (3 : Int32) dX4_isNumberOver_4 (by decide) ?_
  refine E_icmp_ge (pc := 5) O 42 dX4_isNumberOver_5 (by decide) hf (fun hf => ?_) (fun hf => ?_)
  · exact E_sub (L' := [none]) True.intro (t_b_X4_isNumberOver_42 O Z  hf)
  · refine E_aload_n (pc := 8) O 0 dX4_isNumberOver_8 rfl rfl ?_
    refine E_getI (pc := 9) O FL_RailSequenceModel_141 dX4_isNumberOver_9 hf (fun v2 hf => ?_)
    refine E_if_le (pc := 12) O 42 dX4_isNumberOver_12 (by decide) hf (fun hf => ?_) (fun hf => ?_)
    · exact E_sub (L' := [none]) True.intro (t_b_X4_isNumberOver_42 O Z  hf)
    · refine E_aload_n (pc := 15) O 0 dX4_isNumberOver_15 rfl rfl ?_
      refine E_getR (pc := 16) O FL_RailSequenceModel_25 dX4_isNumberOver_16 hf (fun v3 hf => ?_)
      refine E_iconst (pc := 19) O (4 : Int32) dX4_isNumberOver_19 (by decide) ?_
      refine E_aload_n (pc := 20) O 0 dX4_isNumberOver_20 rfl rfl ?_
      refine E_getI (pc := 21) O FL_RailSequenceModel_147 dX4_isNumberOver_21 hf (fun v4 hf => ?_)
      refine E_imul (pc := 24) O dX4_isNumberOver_24 ?_
      refine E_aload_n (pc := 25) O 0 dX4_isNumberOver_25 rfl rfl ?_
      refine E_getI (pc := 26) O FL_RailSequenceModel_138 dX4_isNumberOver_26 hf (fun v5 hf => ?_)
      refine E_iadd (pc := 29) O dX4_isNumberOver_29 ?_
      refine E_iaload (pc := 30) O dX4_isNumberOver_30 hf (fun v6 hf => ?_)
      refine E_aload_n (pc := 31) O 0 dX4_isNumberOver_31 rfl rfl ?_
      refine E_callV_iP (pc := 32) (S := [.int v6]) O [] CV_RailSequenceModel_150 rfl (fun r e => t_X4_least e) dX4_isNumberOver_32 hf rfl ⟨(Nat.le_of_ble_eq_true rfl), (Nat.le_of_ble_eq_true rfl)⟩ ⟨(Nat.le_of_ble_eq_true rfl), (Nat.le_of_ble_eq_true rfl)⟩ (Nat.le_of_ble_eq_true rfl) (fun v7 hf => ?_)
      refine E_icmp_lt (pc := 35) O 42 dX4_isNumberOver_35 (by decide) hf (fun hf => ?_) (fun hf => ?_)
      · exact E_sub (L' := [none]) True.intro (t_b_X4_isNumberOver_42 O Z  hf)
      · refine E_iconst (pc := 38) O (1 : Int32) dX4_isNumberOver_38 (by decide) ?_
        refine E_goto (pc := 39) O 43 dX4_isNumberOver_39 (by decide) ?_
        exact E_sub (L' := [none]) True.intro (t_b_X4_isNumberOver_43 O Z (1 : Int32) hf)
set_option maxHeartbeats 4000000 in
set_option maxRecDepth 100000 in
theorem t_b_X4_isRailOver_43 {K : Cx} {fr : Bool} {out : Int32} {h : MH} (O : Ok K yX4_isRailOver.cls cX4_isRailOver 1 (rmm 2 40 0 0)) (Z : Out K (some .boolean) fr (some (.int out)) h) (s0 : Int32) (hf : b_X4_isRailOver_43 h s0 = some out) : EE K (fr, 0, 0) 43 [none] [.int s0] h := by
  unfold b_X4_isRailOver_43 at hf
  exact E_zretP (pc := 43) O Z hf ⟨(Nat.le_of_ble_eq_true rfl), (Nat.le_of_ble_eq_true rfl)⟩ dX4_isRailOver_43
set_option maxHeartbeats 4000000 in
set_option maxRecDepth 100000 in
theorem t_b_X4_isRailOver_42 {K : Cx} {fr : Bool} {out : Int32} {h : MH} (O : Ok K yX4_isRailOver.cls cX4_isRailOver 1 (rmm 2 40 0 0)) (Z : Out K (some .boolean) fr (some (.int out)) h)  (hf : b_X4_isRailOver_42 h  = some out) : EE K (fr, 0, 0) 42 [none] [] h := by
  unfold b_X4_isRailOver_42 at hf
  refine E_iconst (pc := 42) O (0 : Int32) dX4_isRailOver_42 (by decide) ?_
  exact t_b_X4_isRailOver_43 O Z (0 : Int32) hf
set_option maxHeartbeats 4000000 in
set_option maxRecDepth 100000 in
theorem t_X4_isRailOver {g : Gx} {fr : Bool} {h : MH} {x0} {out : Int32} (hf : f_X4_isRailOver h x0 = some out) : MM g yX4_isRailOver cX4_isRailOver 1 (some .boolean) 2 40 0 0 fr fr [.ref x0] h (some (.int out)) h := by
  unfold f_X4_isRailOver at hf
  refine MM_of (L := [some (.ref x0)]) (by decide) (Nat.le_of_ble_eq_true rfl) rfl (fun K hK O Z hn => ?_)
  refine E_aload_n (pc := 0) O 0 dX4_isRailOver_0 rfl rfl ?_
  refine E_getI (pc := 1) O FL_RailSequenceModel_138 dX4_isRailOver_1 hf (fun v1 hf => ?_)
  refine E_iconst (pc := 4) O (3 : Int32) dX4_isRailOver_4 (by decide) ?_
  refine E_icmp_ne (pc := 5) O 23 dX4_isRailOver_5 (by decide) hf (fun hf => ?_) (fun hf => ?_)
  · refine E_aload_n (pc := 23) O 0 dX4_isRailOver_23 rfl rfl ?_
    refine E_getI (pc := 24) O FL_RailSequenceModel_138 dX4_isRailOver_24 hf (fun v2 hf => ?_)
    refine E_iconst (pc := 27) O (2 : Int32) dX4_isRailOver_27 (by decide) ?_
    refine E_icmp_ne (pc := 28) O 42 dX4_isRailOver_28 (by decide) hf (fun hf => ?_) (fun hf => ?_)
    · exact E_sub (L' := [none]) True.intro (t_b_X4_isRailOver_42 O Z  hf)
    · refine E_aload_n (pc := 31) O 0 dX4_isRailOver_31 rfl rfl ?_
      refine E_callV_iP (pc := 32) (S := []) O [] CV_RailSequenceModel_154 rfl (fun r e => t_X4_isNumberOver e) dX4_isRailOver_32 hf rfl ⟨(Nat.le_of_ble_eq_true rfl), (Nat.le_of_ble_eq_true rfl)⟩ ⟨(Nat.le_of_ble_eq_true rfl), (Nat.le_of_ble_eq_true rfl)⟩ (Nat.le_of_ble_eq_true rfl) (fun v3 hf => ?_)
      refine E_if_eq (pc := 35) O 42 dX4_isRailOver_35 (by decide) hf (fun hf => ?_) (fun hf => ?_)
      · exact E_sub (L' := [none]) True.intro (t_b_X4_isRailOver_42 O Z  hf)
      · refine E_iconst (pc := 38) O (1 : Int32) dX4_isRailOver_38 (by decide) ?_
        refine E_goto (pc := 39) O 43 dX4_isRailOver_39 (by decide) ?_
        exact E_sub (L' := [none]) True.intro (t_b_X4_isRailOver_43 O Z (1 : Int32) hf)
  · refine E_aload_n (pc := 8) O 0 dX4_isRailOver_8 rfl rfl ?_
    refine E_getI (pc := 9) O FL_RailSequenceModel_141 dX4_isRailOver_9 hf (fun v4 hf => ?_)
    refine E_if_le (pc := 12) O 19 dX4_isRailOver_12 (by decide) hf (fun hf => ?_) (fun hf => ?_)
    · refine E_iconst (pc := 19) O (0 : Int32) dX4_isRailOver_19 (by decide) ?_
      refine E_goto (pc := 20) O 43 dX4_isRailOver_20 (by decide) ?_
      exact E_sub (L' := [none]) True.intro (t_b_X4_isRailOver_43 O Z (0 : Int32) hf)
    · refine E_iconst (pc := 15) O (1 : Int32) dX4_isRailOver_15 (by decide) ?_
      refine E_goto (pc := 16) O 43 dX4_isRailOver_16 (by decide) ?_
      exact E_sub (L' := [none]) True.intro (t_b_X4_isRailOver_43 O Z (1 : Int32) hf)
set_option maxHeartbeats 4000000 in
set_option maxRecDepth 100000 in
theorem t_b_X4_takes_118 {K : Cx} {fr : Bool} {out : (Int32 × MH)} (O : Ok K yX4_takes.cls cX4_takes 3 (rmm 3 60 0 0)) (Z : Out K (some .boolean) fr (some (.int out.1)) out.2) (h : MH) (hf : b_X4_takes_118 h = some out) : EE K (fr, 0, 0) 118 [none, none, none] [] h := by
  unfold b_X4_takes_118 at hf
  refine E_iconst (pc := 118) O (0 : Int32) dX4_takes_118 (by decide) ?_
  exact E_zret (pc := 119) O Z hf ⟨(Nat.le_of_ble_eq_true rfl), (Nat.le_of_ble_eq_true rfl)⟩ dX4_takes_119
set_option maxHeartbeats 4000000 in
set_option maxRecDepth 100000 in
theorem t_b_X4_takes_67 {K : Cx} {fr : Bool} {out : (Int32 × MH)} (O : Ok K yX4_takes.cls cX4_takes 3 (rmm 3 60 0 0)) (Z : Out K (some .boolean) fr (some (.int out.1)) out.2) (h : MH) (x0 : Nat) (x1 : Int32) (s0 : Int32) (hf : b_X4_takes_67 h x0 x1 s0 = some out) : EE K (fr, 0, 0) 67 [some (.ref x0), some (.int x1), none] [.int s0] h := by
  unfold b_X4_takes_67 at hf
  refine E_istore_n (pc := 67) O 2 [some (.ref x0), some (.int x1), some (.int s0)] dX4_takes_67 rfl (by decide) rfl rfl ?_
  refine E_iload_n (pc := 68) O 2 dX4_takes_68 rfl rfl ?_
  refine E_if_eq (pc := 69) O 89 dX4_takes_69 (by decide) hf (fun hf => ?_) (fun hf => ?_)
  · refine E_iload_n (pc := 89) O 1 dX4_takes_89 rfl rfl ?_
    refine E_bipush (pc := 90) O (59 : Int32) dX4_takes_90 (by decide) ?_
    refine E_icmp_ne (pc := 92) O 118 dX4_takes_92 (by decide) hf (fun hf => ?_) (fun hf => ?_)
    · exact E_sub (L' := [none, none, none]) True.intro (t_b_X4_takes_118 O Z h hf)
    · refine E_aload_n (pc := 95) O 0 dX4_takes_95 rfl rfl ?_
      refine E_callV_iP (pc := 96) (S := []) O [] CV_RailSequenceModel_161 rfl (fun r e => t_X4_isRailOver e) dX4_takes_96 hf rfl ⟨(Nat.le_of_ble_eq_true rfl), (Nat.le_of_ble_eq_true rfl)⟩ ⟨(Nat.le_of_ble_eq_true rfl), (Nat.le_of_ble_eq_true rfl)⟩ (Nat.le_of_ble_eq_true rfl) (fun v1 hf => ?_)
      refine E_if_eq (pc := 99) O 118 dX4_takes_99 (by decide) hf (fun hf => ?_) (fun hf => ?_)
      · exact E_sub (L' := [none, none, none]) True.intro (t_b_X4_takes_118 O Z h hf)
      · refine E_aload_n (pc := 102) O 0 dX4_takes_102 rfl rfl ?_
        refine E_dup (pc := 103) O dX4_takes_103 rfl ?_
        refine E_getI (pc := 104) O FL_RailSequenceModel_147 dX4_takes_104 hf (fun v2 hf => ?_)
        refine E_iconst (pc := 107) O (1 : Int32) dX4_takes_107 (by decide) ?_
        refine E_iadd (pc := 108) O dX4_takes_108 ?_
        refine E_put (pc := 109) O FN_RailSequenceModel_147 rfl rfl dX4_takes_109 hf (fun h3 hf => ?_)
        refine E_aload_n (pc := 112) O 0 dX4_takes_112 rfl rfl ?_
        refine E_callV_v (pc := 113) (S := []) O [] CV_RailSequenceModel_164 rfl (fun r e => t_X4_beginRail e) dX4_takes_113 hf rfl ⟨(Nat.le_of_ble_eq_true rfl), (Nat.le_of_ble_eq_true rfl)⟩ ⟨(Nat.le_of_ble_eq_true rfl), (Nat.le_of_ble_eq_true rfl)⟩ (Nat.le_of_ble_eq_true rfl) (fun h4 hf => ?_)
        refine E_iconst (pc := 116) O (1 : Int32) dX4_takes_116 (by decide) ?_
        exact E_zret (pc := 117) O Z hf ⟨(Nat.le_of_ble_eq_true rfl), (Nat.le_of_ble_eq_true rfl)⟩ dX4_takes_117
  · refine E_aload_n (pc := 72) O 0 dX4_takes_72 rfl rfl ?_
    refine E_dup (pc := 73) O dX4_takes_73 rfl ?_
    refine E_getI (pc := 74) O FL_RailSequenceModel_138 dX4_takes_74 hf (fun v5 hf => ?_)
    refine E_iconst (pc := 77) O (1 : Int32) dX4_takes_77 (by decide) ?_
    refine E_iadd (pc := 78) O dX4_takes_78 ?_
    refine E_put (pc := 79) O FN_RailSequenceModel_138 rfl rfl dX4_takes_79 hf (fun h6 hf => ?_)
    refine E_aload_n (pc := 82) O 0 dX4_takes_82 rfl rfl ?_
    refine E_iconst (pc := 83) O (0 : Int32) dX4_takes_83 (by decide) ?_
    refine E_put (pc := 84) O FN_RailSequenceModel_141 rfl rfl dX4_takes_84 hf (fun h7 hf => ?_)
    refine E_iconst (pc := 87) O (1 : Int32) dX4_takes_87 (by decide) ?_
    exact E_zret (pc := 88) O Z hf ⟨(Nat.le_of_ble_eq_true rfl), (Nat.le_of_ble_eq_true rfl)⟩ dX4_takes_88
set_option maxHeartbeats 4000000 in
set_option maxRecDepth 100000 in
theorem t_b_X4_takes_66 {K : Cx} {fr : Bool} {out : (Int32 × MH)} (O : Ok K yX4_takes.cls cX4_takes 3 (rmm 3 60 0 0)) (Z : Out K (some .boolean) fr (some (.int out.1)) out.2) (h : MH) (x0 : Nat) (x1 : Int32) (hf : b_X4_takes_66 h x0 x1 = some out) : EE K (fr, 0, 0) 66 [some (.ref x0), some (.int x1), none] [] h := by
  unfold b_X4_takes_66 at hf
  refine E_iconst (pc := 66) O (0 : Int32) dX4_takes_66 (by decide) ?_
  exact t_b_X4_takes_67 O Z h x0 x1 (0 : Int32) hf
set_option maxHeartbeats 4000000 in
set_option maxRecDepth 100000 in
theorem t_b_X4_takes_62 {K : Cx} {fr : Bool} {out : (Int32 × MH)} (O : Ok K yX4_takes.cls cX4_takes 3 (rmm 3 60 0 0)) (Z : Out K (some .boolean) fr (some (.int out.1)) out.2) (h : MH) (x0 : Nat) (x1 : Int32) (hf : b_X4_takes_62 h x0 x1 = some out) : EE K (fr, 0, 0) 62 [some (.ref x0), some (.int x1), none] [] h := by
  unfold b_X4_takes_62 at hf
  refine E_iconst (pc := 62) O (1 : Int32) dX4_takes_62 (by decide) ?_
  refine E_goto (pc := 63) O 67 dX4_takes_63 (by decide) ?_
  exact t_b_X4_takes_67 O Z h x0 x1 (1 : Int32) hf
set_option maxHeartbeats 4000000 in
set_option maxRecDepth 100000 in
theorem t_b_X4_takes_41 {K : Cx} {fr : Bool} {out : (Int32 × MH)} (O : Ok K yX4_takes.cls cX4_takes 3 (rmm 3 60 0 0)) (Z : Out K (some .boolean) fr (some (.int out.1)) out.2) (h : MH) (x0 : Nat) (x1 : Int32) (hf : b_X4_takes_41 h x0 x1 = some out) : EE K (fr, 0, 0) 41 [some (.ref x0), some (.int x1), none] [] h := by
  unfold b_X4_takes_41 at hf
  refine E_iload_n (pc := 41) O 1 dX4_takes_41 rfl rfl ?_
  refine E_bipush (pc := 42) O (60 : Int32) dX4_takes_42 (by decide) ?_
  refine E_icmp_ne (pc := 44) O 66 dX4_takes_44 (by decide) hf (fun hf => ?_) (fun hf => ?_)
  · exact t_b_X4_takes_66 O Z h x0 x1 hf
  · refine E_aload_n (pc := 47) O 0 dX4_takes_47 rfl rfl ?_
    refine E_getI (pc := 48) O FL_RailSequenceModel_138 dX4_takes_48 hf (fun v8 hf => ?_)
    refine E_iconst (pc := 51) O (2 : Int32) dX4_takes_51 (by decide) ?_
    refine E_icmp_ne (pc := 52) O 66 dX4_takes_52 (by decide) hf (fun hf => ?_) (fun hf => ?_)
    · exact t_b_X4_takes_66 O Z h x0 x1 hf
    · refine E_aload_n (pc := 55) O 0 dX4_takes_55 rfl rfl ?_
      refine E_callV_iP (pc := 56) (S := []) O [] CV_RailSequenceModel_154 rfl (fun r e => t_X4_isNumberOver e) dX4_takes_56 hf rfl ⟨(Nat.le_of_ble_eq_true rfl), (Nat.le_of_ble_eq_true rfl)⟩ ⟨(Nat.le_of_ble_eq_true rfl), (Nat.le_of_ble_eq_true rfl)⟩ (Nat.le_of_ble_eq_true rfl) (fun v9 hf => ?_)
      refine E_if_eq (pc := 59) O 66 dX4_takes_59 (by decide) hf (fun hf => ?_) (fun hf => ?_)
      · exact t_b_X4_takes_66 O Z h x0 x1 hf
      · exact t_b_X4_takes_62 O Z h x0 x1 hf
set_option maxHeartbeats 4000000 in
set_option maxRecDepth 100000 in
theorem t_X4_takes {g : Gx} {fr : Bool} {h : MH} {x0 x1} {out : (Int32 × MH)} (hf : f_X4_takes h x0 x1 = some out) : MM g yX4_takes cX4_takes 3 (some .boolean) 3 60 0 0 fr fr [.ref x0, .int x1] h (some (.int out.1)) out.2 := by
  unfold f_X4_takes at hf
  refine MM_of (L := [some (.ref x0), some (.int x1), none]) (by decide) (Nat.le_of_ble_eq_true rfl) rfl (fun K hK O Z hn => ?_)
  refine E_iload_n (pc := 0) O 1 dX4_takes_0 rfl rfl ?_
  refine E_bipush (pc := 1) O (48 : Int32) dX4_takes_1 (by decide) ?_
  refine E_bipush (pc := 3) O (57 : Int32) dX4_takes_3 (by decide) ?_
  refine E_callS_iP (pc := 5) (S := []) O [.int x1, .int (48 : Int32), .int (57 : Int32)] CS_RailSequenceModel_32 (fun r e => t_X4_within e) dX4_takes_5 hf rfl ⟨(Nat.le_of_ble_eq_true rfl), (Nat.le_of_ble_eq_true rfl)⟩ ⟨(Nat.le_of_ble_eq_true rfl), (Nat.le_of_ble_eq_true rfl)⟩ (Nat.le_of_ble_eq_true rfl) (fun v10 hf => ?_)
  refine E_if_eq (pc := 8) O 20 dX4_takes_8 (by decide) hf (fun hf => ?_) (fun hf => ?_)
  · refine E_iload_n (pc := 20) O 1 dX4_takes_20 rfl rfl ?_
    refine E_bipush (pc := 21) O (47 : Int32) dX4_takes_21 (by decide) ?_
    refine E_icmp_ne (pc := 23) O 41 dX4_takes_23 (by decide) hf (fun hf => ?_) (fun hf => ?_)
    · exact t_b_X4_takes_41 O Z h x0 x1 hf
    · refine E_aload_n (pc := 26) O 0 dX4_takes_26 rfl rfl ?_
      refine E_getI (pc := 27) O FL_RailSequenceModel_138 dX4_takes_27 hf (fun v11 hf => ?_)
      refine E_iconst (pc := 30) O (2 : Int32) dX4_takes_30 (by decide) ?_
      refine E_icmp_ge (pc := 31) O 41 dX4_takes_31 (by decide) hf (fun hf => ?_) (fun hf => ?_)
      · exact t_b_X4_takes_41 O Z h x0 x1 hf
      · refine E_aload_n (pc := 34) O 0 dX4_takes_34 rfl rfl ?_
        refine E_callV_iP (pc := 35) (S := []) O [] CV_RailSequenceModel_154 rfl (fun r e => t_X4_isNumberOver e) dX4_takes_35 hf rfl ⟨(Nat.le_of_ble_eq_true rfl), (Nat.le_of_ble_eq_true rfl)⟩ ⟨(Nat.le_of_ble_eq_true rfl), (Nat.le_of_ble_eq_true rfl)⟩ (Nat.le_of_ble_eq_true rfl) (fun v12 hf => ?_)
        refine E_if_ne (pc := 38) O 62 dX4_takes_38 (by decide) hf (fun hf => ?_) (fun hf => ?_)
        · exact t_b_X4_takes_62 O Z h x0 x1 hf
        · exact t_b_X4_takes_41 O Z h x0 x1 hf
  · refine E_aload_n (pc := 11) O 0 dX4_takes_11 rfl rfl ?_
    refine E_iload_n (pc := 12) O 1 dX4_takes_12 rfl rfl ?_
    refine E_bipush (pc := 13) O (48 : Int32) dX4_takes_13 (by decide) ?_
    refine E_isub (pc := 15) O dX4_takes_15 ?_
    refine E_callV_i (pc := 16) (S := []) O [.int (x1 - (48 : Int32))] CV_RailSequenceModel_158 rfl (fun r e => t_X4_takesDigit e) dX4_takes_16 hf rfl ⟨(Nat.le_of_ble_eq_true rfl), (Nat.le_of_ble_eq_true rfl)⟩ ⟨(Nat.le_of_ble_eq_true rfl), (Nat.le_of_ble_eq_true rfl)⟩ (Nat.le_of_ble_eq_true rfl) (fun p13 hf => ?_)
    exact E_zret (pc := 19) O Z hf ⟨(Nat.le_of_ble_eq_true rfl), (Nat.le_of_ble_eq_true rfl)⟩ dX4_takes_19
set_option maxHeartbeats 4000000 in
set_option maxRecDepth 100000 in
theorem t_b_X4_readText_38 {K : Cx} {fr : Bool} {out : (Int32 × MH)} (O : Ok K yX4_readText.cls cX4_readText 2 (rmm 4 82 0 0)) (Z : Out K (some .int) fr (some (.int out.1)) out.2) (h : MH) (x1 : Int32) (hf : b_X4_readText_38 h x1 = some out) : EE K (fr, 0, 0) 38 [none, some (.int x1)] [] h := by
  unfold b_X4_readText_38 at hf
  refine E_iload_n (pc := 38) O 1 dX4_readText_38 rfl rfl ?_
  exact E_iret (pc := 39) O Z hf ⟨(Nat.le_of_ble_eq_true rfl), (Nat.le_of_ble_eq_true rfl)⟩ dX4_readText_39
set_option maxHeartbeats 4000000 in
set_option maxRecDepth 100000 in
theorem t_b_X4_readText_11 {K : Cx} {fr : Bool} {out : (Int32 × MH)} (O : Ok K yX4_readText.cls cX4_readText 2 (rmm 4 82 0 0)) (Z : Out K (some .int) fr (some (.int out.1)) out.2) (rec11 : MH → Nat → Int32 → Option (Int32 × MH)) (hr11 : ∀ (h : MH) (x0 : Nat) (x1 : Int32), rec11 h x0 x1 = some out → EE K (fr, 0, 0) 11 [some (.ref x0), some (.int x1)] [] h) (h : MH) (x0 : Nat) (x1 : Int32) (hf : b_X4_readText_11 rec11 h x0 x1 = some out) : EE K (fr, 0, 0) 11 [some (.ref x0), some (.int x1)] [] h := by
  unfold b_X4_readText_11 at hf
  refine E_iload_n (pc := 11) O 1 dX4_readText_11 rfl rfl ?_
  refine E_aload_n (pc := 12) O 0 dX4_readText_12 rfl rfl ?_
  refine E_getI (pc := 13) O FL_RailSequenceModel_135 dX4_readText_13 hf (fun v1 hf => ?_)
  refine E_icmp_ge (pc := 16) O 38 dX4_readText_16 (by decide) hf (fun hf => ?_) (fun hf => ?_)
  · exact E_sub (L' := [none, some (.int x1)]) (And.intro rfl True.intro) (t_b_X4_readText_38 O Z h x1 hf)
  · refine E_aload_n (pc := 19) O 0 dX4_readText_19 rfl rfl ?_
    refine E_aload_n (pc := 20) O 0 dX4_readText_20 rfl rfl ?_
    refine E_getR (pc := 21) O FL_RailSequenceModel_16 dX4_readText_21 hf (fun v2 hf => ?_)
    refine E_iload_n (pc := 24) O 1 dX4_readText_24 rfl rfl ?_
    refine E_iaload (pc := 25) O dX4_readText_25 hf (fun v3 hf => ?_)
    refine E_callV_i (pc := 26) (S := []) O [.int v3] CV_RailSequenceModel_167 rfl (fun r e => t_X4_takes e) dX4_readText_26 hf rfl ⟨(Nat.le_of_ble_eq_true rfl), (Nat.le_of_ble_eq_true rfl)⟩ ⟨(Nat.le_of_ble_eq_true rfl), (Nat.le_of_ble_eq_true rfl)⟩ (Nat.le_of_ble_eq_true rfl) (fun p4 hf => ?_)
    refine E_if_eq (pc := 29) O 38 dX4_readText_29 (by decide) hf (fun hf => ?_) (fun hf => ?_)
    · exact E_sub (L' := [none, some (.int x1)]) (And.intro rfl True.intro) (t_b_X4_readText_38 O Z p4.2 x1 hf)
    · refine E_iinc (pc := 32) O (1 : Int32) [some (.ref x0), some (.int (x1 + (1 : Int32)))] dX4_readText_32 rfl (by decide) rfl (by decide) rfl ?_
      refine E_goto (pc := 35) O 11 dX4_readText_35 (by decide) ?_
      exact hr11 p4.2 x0 (x1 + (1 : Int32)) hf
theorem t_f_X4_readText_11 {K : Cx} {fr : Bool} {out : (Int32 × MH)} (O : Ok K yX4_readText.cls cX4_readText 2 (rmm 4 82 0 0)) (Z : Out K (some .int) fr (some (.int out.1)) out.2) : ∀ (n : Nat) (h : MH) (x0 : Nat) (x1 : Int32), f_X4_readText_11 n h x0 x1 = some out → EE K (fr, 0, 0) 11 [some (.ref x0), some (.int x1)] [] h := by
  intro n
  induction n with
  | zero => intro h x0 x1 hf; cases hf
  | succ n ih => intro h x0 x1 hf; exact t_b_X4_readText_11 O Z _ ih h x0 x1 hf
set_option maxHeartbeats 4000000 in
set_option maxRecDepth 100000 in
theorem t_X4_readText {g : Gx} {fr : Bool} {h : MH} {x0} {out : (Int32 × MH)} (hf : f_X4_readText h x0 = some out) : MM g yX4_readText cX4_readText 2 (some .int) 4 82 0 0 fr fr [.ref x0] h (some (.int out.1)) out.2 := by
  unfold f_X4_readText at hf
  refine MM_of (L := [some (.ref x0), none]) (by decide) (Nat.le_of_ble_eq_true rfl) rfl (fun K hK O Z hn => ?_)
  refine E_aload_n (pc := 0) O 0 dX4_readText_0 rfl rfl ?_
  refine E_iconst (pc := 1) O (0 : Int32) dX4_readText_1 (by decide) ?_
  refine E_put (pc := 2) O FN_RailSequenceModel_147 rfl rfl dX4_readText_2 hf (fun h5 hf => ?_)
  refine E_aload_n (pc := 5) O 0 dX4_readText_5 rfl rfl ?_
  refine E_callV_v (pc := 6) (S := []) O [] CV_RailSequenceModel_164 rfl (fun r e => t_X4_beginRail e) dX4_readText_6 hf rfl ⟨(Nat.le_of_ble_eq_true rfl), (Nat.le_of_ble_eq_true rfl)⟩ ⟨(Nat.le_of_ble_eq_true rfl), (Nat.le_of_ble_eq_true rfl)⟩ (Nat.le_of_ble_eq_true rfl) (fun h6 hf => ?_)
  refine E_iconst (pc := 9) O (0 : Int32) dX4_readText_9 (by decide) ?_
  refine E_istore_n (pc := 10) O 1 [some (.ref x0), some (.int (0 : Int32))] dX4_readText_10 rfl (by decide) rfl rfl ?_
  exact t_f_X4_readText_11 O Z FU h6 x0 (0 : Int32) hf
set_option maxHeartbeats 4000000 in
set_option maxRecDepth 100000 in
theorem t_X4_firstError {g : Gx} {fr : Bool} {h : MH} {x0} {out : (Int32 × MH)} (hf : f_X4_firstError h x0 = some out) : MM g yX4_firstError cX4_firstError 1 (some .int) 5 103 0 0 fr fr [.ref x0] h (some (.int out.1)) out.2 := by
  unfold f_X4_firstError at hf
  refine MM_of (L := [some (.ref x0)]) (by decide) (Nat.le_of_ble_eq_true rfl) rfl (fun K hK O Z hn => ?_)
  refine E_aload_n (pc := 0) O 0 dX4_firstError_0 rfl rfl ?_
  refine E_iconst (pc := 1) O (0 : Int32) dX4_firstError_1 (by decide) ?_
  refine E_put (pc := 2) O FN_RailSequenceModel_28 rfl rfl dX4_firstError_2 hf (fun h1 hf => ?_)
  refine E_aload_n (pc := 5) O 0 dX4_firstError_5 rfl rfl ?_
  refine E_callV_i (pc := 6) (S := []) O [] CV_RailSequenceModel_170 rfl (fun r e => t_X4_readText e) dX4_firstError_6 hf rfl ⟨(Nat.le_of_ble_eq_true rfl), (Nat.le_of_ble_eq_true rfl)⟩ ⟨(Nat.le_of_ble_eq_true rfl), (Nat.le_of_ble_eq_true rfl)⟩ (Nat.le_of_ble_eq_true rfl) (fun p2 hf => ?_)
  exact E_iret (pc := 9) O Z hf ⟨(Nat.le_of_ble_eq_true rfl), (Nat.le_of_ble_eq_true rfl)⟩ dX4_firstError_9
set_option maxHeartbeats 4000000 in
set_option maxRecDepth 100000 in
theorem t_b_X4_isEarlier_66 {K : Cx} {fr : Bool} {out : Int32} {h : MH} (O : Ok K yX4_isEarlier.cls cX4_isEarlier 3 (rmm 1 22 0 0)) (Z : Out K (some .boolean) fr (some (.int out)) h) (rec24 : Nat → Int32 → Int32 → Option Int32) (hr24 : ∀ (x0 : Nat) (x1 : Int32) (x2 : Int32), rec24 x0 x1 x2 = some out → EE K (fr, 0, 0) 24 [some (.ref x0), some (.int x1), some (.int x2)] [] h) (x0 : Nat) (x2 : Int32) (s0 : Int32) (hf : b_X4_isEarlier_66 h rec24 x0 x2 s0 = some out) : EE K (fr, 0, 0) 66 [some (.ref x0), none, some (.int x2)] [.int s0] h := by
  unfold b_X4_isEarlier_66 at hf
  refine E_istore_n (pc := 66) O 1 [some (.ref x0), some (.int s0), some (.int x2)] dX4_isEarlier_66 rfl (by decide) rfl rfl ?_
  refine E_iinc (pc := 67) O (1 : Int32) [some (.ref x0), some (.int s0), some (.int (x2 + (1 : Int32)))] dX4_isEarlier_67 rfl (by decide) rfl (by decide) rfl ?_
  refine E_goto (pc := 70) O 24 dX4_isEarlier_70 (by decide) ?_
  exact hr24 x0 s0 (x2 + (1 : Int32)) hf
set_option maxHeartbeats 4000000 in
set_option maxRecDepth 100000 in
theorem t_b_X4_isEarlier_65 {K : Cx} {fr : Bool} {out : Int32} {h : MH} (O : Ok K yX4_isEarlier.cls cX4_isEarlier 3 (rmm 1 22 0 0)) (Z : Out K (some .boolean) fr (some (.int out)) h) (rec24 : Nat → Int32 → Int32 → Option Int32) (hr24 : ∀ (x0 : Nat) (x1 : Int32) (x2 : Int32), rec24 x0 x1 x2 = some out → EE K (fr, 0, 0) 24 [some (.ref x0), some (.int x1), some (.int x2)] [] h) (x0 : Nat) (x2 : Int32) (hf : b_X4_isEarlier_65 h rec24 x0 x2 = some out) : EE K (fr, 0, 0) 65 [some (.ref x0), none, some (.int x2)] [] h := by
  unfold b_X4_isEarlier_65 at hf
  refine E_iconst (pc := 65) O (0 : Int32) dX4_isEarlier_65 (by decide) ?_
  exact t_b_X4_isEarlier_66 O Z _ hr24 x0 x2 (0 : Int32) hf
set_option maxHeartbeats 4000000 in
set_option maxRecDepth 100000 in
theorem t_b_X4_isEarlier_24 {K : Cx} {fr : Bool} {out : Int32} {h : MH} (O : Ok K yX4_isEarlier.cls cX4_isEarlier 3 (rmm 1 22 0 0)) (Z : Out K (some .boolean) fr (some (.int out)) h) (rec24 : Nat → Int32 → Int32 → Option Int32) (hr24 : ∀ (x0 : Nat) (x1 : Int32) (x2 : Int32), rec24 x0 x1 x2 = some out → EE K (fr, 0, 0) 24 [some (.ref x0), some (.int x1), some (.int x2)] [] h) (x0 : Nat) (x1 : Int32) (x2 : Int32) (hf : b_X4_isEarlier_24 h rec24 x0 x1 x2 = some out) : EE K (fr, 0, 0) 24 [some (.ref x0), some (.int x1), some (.int x2)] [] h := by
  unfold b_X4_isEarlier_24 at hf
  refine E_iload_n (pc := 24) O 2 dX4_isEarlier_24 rfl rfl ?_
  refine E_aload_n (pc := 25) O 0 dX4_isEarlier_25 rfl rfl ?_
  refine E_getI (pc := 26) O FL_RailSequenceModel_147 dX4_isEarlier_26 hf (fun v1 hf => ?_)
  refine E_icmp_gt (pc := 29) O 73 dX4_isEarlier_29 (by decide) hf (fun hf => ?_) (fun hf => ?_)
  · refine E_iload_n (pc := 73) O 1 dX4_isEarlier_73 rfl rfl ?_
    exact E_zretP (pc := 74) O Z hf ⟨(Nat.le_of_ble_eq_true rfl), (Nat.le_of_ble_eq_true rfl)⟩ dX4_isEarlier_74
  · refine E_iload_n (pc := 32) O 1 dX4_isEarlier_32 rfl rfl ?_
    refine E_if_eq (pc := 33) O 65 dX4_isEarlier_33 (by decide) hf (fun hf => ?_) (fun hf => ?_)
    · exact E_sub (L' := [some (.ref x0), none, some (.int x2)]) (And.intro rfl (And.intro rfl True.intro)) (t_b_X4_isEarlier_65 O Z _ hr24 x0 x2 hf)
    · refine E_aload_n (pc := 36) O 0 dX4_isEarlier_36 rfl rfl ?_
      refine E_aload_n (pc := 37) O 0 dX4_isEarlier_37 rfl rfl ?_
      refine E_getR (pc := 38) O FL_RailSequenceModel_25 dX4_isEarlier_38 hf (fun v2 hf => ?_)
      refine E_iconst (pc := 41) O (4 : Int32) dX4_isEarlier_41 (by decide) ?_
      refine E_iload_n (pc := 42) O 2 dX4_isEarlier_42 rfl rfl ?_
      refine E_imul (pc := 43) O dX4_isEarlier_43 ?_
      refine E_iconst (pc := 44) O (3 : Int32) dX4_isEarlier_44 (by decide) ?_
      refine E_iadd (pc := 45) O dX4_isEarlier_45 ?_
      refine E_iaload (pc := 46) O dX4_isEarlier_46 hf (fun v3 hf => ?_)
      refine E_aload_n (pc := 47) O 0 dX4_isEarlier_47 rfl rfl ?_
      refine E_getR (pc := 48) O FL_RailSequenceModel_7 dX4_isEarlier_48 hf (fun v4 hf => ?_)
      refine E_iconst (pc := 51) O (0 : Int32) dX4_isEarlier_51 (by decide) ?_
      refine E_iaload (pc := 52) O dX4_isEarlier_52 hf (fun v5 hf => ?_)
      refine E_iload_n (pc := 53) O 2 dX4_isEarlier_53 rfl rfl ?_
      refine E_iadd (pc := 54) O dX4_isEarlier_54 ?_
      refine E_callV_iP (pc := 55) (S := []) O [.int v3, .int (v5 + x2)] CV_RailSequenceModel_107 rfl (fun r e => t_X4_isMask e) dX4_isEarlier_55 hf rfl ⟨(Nat.le_of_ble_eq_true rfl), (Nat.le_of_ble_eq_true rfl)⟩ ⟨(Nat.le_of_ble_eq_true rfl), (Nat.le_of_ble_eq_true rfl)⟩ (Nat.le_of_ble_eq_true rfl) (fun v6 hf => ?_)
      refine E_if_eq (pc := 58) O 65 dX4_isEarlier_58 (by decide) hf (fun hf => ?_) (fun hf => ?_)
      · exact E_sub (L' := [some (.ref x0), none, some (.int x2)]) (And.intro rfl (And.intro rfl True.intro)) (t_b_X4_isEarlier_65 O Z _ hr24 x0 x2 hf)
      · refine E_iconst (pc := 61) O (1 : Int32) dX4_isEarlier_61 (by decide) ?_
        refine E_goto (pc := 62) O 66 dX4_isEarlier_62 (by decide) ?_
        exact E_sub (L' := [some (.ref x0), none, some (.int x2)]) (And.intro rfl (And.intro rfl True.intro)) (t_b_X4_isEarlier_66 O Z _ hr24 x0 x2 (1 : Int32) hf)
theorem t_f_X4_isEarlier_24 {K : Cx} {fr : Bool} {out : Int32} {h : MH} (O : Ok K yX4_isEarlier.cls cX4_isEarlier 3 (rmm 1 22 0 0)) (Z : Out K (some .boolean) fr (some (.int out)) h) : ∀ (n : Nat) (x0 : Nat) (x1 : Int32) (x2 : Int32), f_X4_isEarlier_24 h n x0 x1 x2 = some out → EE K (fr, 0, 0) 24 [some (.ref x0), some (.int x1), some (.int x2)] [] h := by
  intro n
  induction n with
  | zero => intro x0 x1 x2 hf; cases hf
  | succ n ih => intro x0 x1 x2 hf; exact t_b_X4_isEarlier_24 O Z _ ih x0 x1 x2 hf
set_option maxHeartbeats 4000000 in
set_option maxRecDepth 100000 in
theorem t_b_X4_isEarlier_21 {K : Cx} {fr : Bool} {out : Int32} {h : MH} (O : Ok K yX4_isEarlier.cls cX4_isEarlier 3 (rmm 1 22 0 0)) (Z : Out K (some .boolean) fr (some (.int out)) h) (x0 : Nat) (s0 : Int32) (hf : b_X4_isEarlier_21 h x0 s0 = some out) : EE K (fr, 0, 0) 21 [some (.ref x0), none, none] [.int s0] h := by
  unfold b_X4_isEarlier_21 at hf
  refine E_istore_n (pc := 21) O 1 [some (.ref x0), some (.int s0), none] dX4_isEarlier_21 rfl (by decide) rfl rfl ?_
  refine E_iconst (pc := 22) O (0 : Int32) dX4_isEarlier_22 (by decide) ?_
  refine E_istore_n (pc := 23) O 2 [some (.ref x0), some (.int s0), some (.int (0 : Int32))] dX4_isEarlier_23 rfl (by decide) rfl rfl ?_
  exact t_f_X4_isEarlier_24 O Z FU x0 s0 (0 : Int32) hf
set_option maxHeartbeats 4000000 in
set_option maxRecDepth 100000 in
theorem t_X4_isEarlier {g : Gx} {fr : Bool} {h : MH} {x0} {out : Int32} (hf : f_X4_isEarlier h x0 = some out) : MM g yX4_isEarlier cX4_isEarlier 3 (some .boolean) 1 22 0 0 fr fr [.ref x0] h (some (.int out)) h := by
  unfold f_X4_isEarlier at hf
  refine MM_of (L := [some (.ref x0), none, none]) (by decide) (Nat.le_of_ble_eq_true rfl) rfl (fun K hK O Z hn => ?_)
  refine E_aload_n (pc := 0) O 0 dX4_isEarlier_0 rfl rfl ?_
  refine E_getR (pc := 1) O FL_RailSequenceModel_7 dX4_isEarlier_1 hf (fun v7 hf => ?_)
  refine E_iconst (pc := 4) O (0 : Int32) dX4_isEarlier_4 (by decide) ?_
  refine E_iaload (pc := 5) O dX4_isEarlier_5 hf (fun v8 hf => ?_)
  refine E_aload_n (pc := 6) O 0 dX4_isEarlier_6 rfl rfl ?_
  refine E_getI (pc := 7) O FL_RailSequenceModel_147 dX4_isEarlier_7 hf (fun v9 hf => ?_)
  refine E_iadd (pc := 10) O dX4_isEarlier_10 ?_
  refine E_bipush (pc := 11) O (8 : Int32) dX4_isEarlier_11 (by decide) ?_
  refine E_icmp_ge (pc := 13) O 20 dX4_isEarlier_13 (by decide) hf (fun hf => ?_) (fun hf => ?_)
  · refine E_iconst (pc := 20) O (0 : Int32) dX4_isEarlier_20 (by decide) ?_
    exact t_b_X4_isEarlier_21 O Z x0 (0 : Int32) hf
  · refine E_iconst (pc := 16) O (1 : Int32) dX4_isEarlier_16 (by decide) ?_
    refine E_goto (pc := 17) O 21 dX4_isEarlier_17 (by decide) ?_
    exact t_b_X4_isEarlier_21 O Z x0 (1 : Int32) hf
set_option maxHeartbeats 4000000 in
set_option maxRecDepth 100000 in
theorem t_b_X4_load_63 {K : Cx} {fr : Bool} {out : (Int32 × MH)} (O : Ok K yX4_load.cls cX4_load 3 (rmm 5 103 0 0)) (Z : Out K (some .int) fr (some (.int out.1)) out.2) (rec63 : MH → Nat → Int32 → Option (Int32 × MH)) (hr63 : ∀ (h : MH) (x0 : Nat) (x2 : Int32), rec63 h x0 x2 = some out → EE K (fr, 0, 0) 63 [some (.ref x0), none, some (.int x2)] [] h) (h : MH) (x0 : Nat) (x2 : Int32) (hf : b_X4_load_63 rec63 h x0 x2 = some out) : EE K (fr, 0, 0) 63 [some (.ref x0), none, some (.int x2)] [] h := by
  unfold b_X4_load_63 at hf
  refine E_iload_n (pc := 63) O 2 dX4_load_63 rfl rfl ?_
  refine E_aload_n (pc := 64) O 0 dX4_load_64 rfl rfl ?_
  refine E_getI (pc := 65) O FL_RailSequenceModel_147 dX4_load_65 hf (fun v1 hf => ?_)
  refine E_icmp_gt (pc := 68) O 119 dX4_load_68 (by decide) hf (fun hf => ?_) (fun hf => ?_)
  · refine E_aload_n (pc := 119) O 0 dX4_load_119 rfl rfl ?_
    refine E_iconst (pc := 120) O (0 : Int32) dX4_load_120 (by decide) ?_
    refine E_put (pc := 121) O FN_RailSequenceModel_135 rfl rfl dX4_load_121 hf (fun h2 hf => ?_)
    refine E_aload_n (pc := 124) O 0 dX4_load_124 rfl rfl ?_
    refine E_getR (pc := 125) O FL_RailSequenceModel_7 dX4_load_125 hf (fun v3 hf => ?_)
    refine E_iconst (pc := 128) O (0 : Int32) dX4_load_128 (by decide) ?_
    refine E_iaload (pc := 129) O dX4_load_129 hf (fun v4 hf => ?_)
    exact E_iret (pc := 130) O Z hf ⟨(Nat.le_of_ble_eq_true rfl), (Nat.le_of_ble_eq_true rfl)⟩ dX4_load_130
  · refine E_aload_n (pc := 71) O 0 dX4_load_71 rfl rfl ?_
    refine E_aload_n (pc := 72) O 0 dX4_load_72 rfl rfl ?_
    refine E_getR (pc := 73) O FL_RailSequenceModel_25 dX4_load_73 hf (fun v5 hf => ?_)
    refine E_iconst (pc := 76) O (4 : Int32) dX4_load_76 (by decide) ?_
    refine E_iload_n (pc := 77) O 2 dX4_load_77 rfl rfl ?_
    refine E_imul (pc := 78) O dX4_load_78 ?_
    refine E_iaload (pc := 79) O dX4_load_79 hf (fun v6 hf => ?_)
    refine E_aload_n (pc := 80) O 0 dX4_load_80 rfl rfl ?_
    refine E_getR (pc := 81) O FL_RailSequenceModel_25 dX4_load_81 hf (fun v7 hf => ?_)
    refine E_iconst (pc := 84) O (4 : Int32) dX4_load_84 (by decide) ?_
    refine E_iload_n (pc := 85) O 2 dX4_load_85 rfl rfl ?_
    refine E_imul (pc := 86) O dX4_load_86 ?_
    refine E_iconst (pc := 87) O (1 : Int32) dX4_load_87 (by decide) ?_
    refine E_iadd (pc := 88) O dX4_load_88 ?_
    refine E_iaload (pc := 89) O dX4_load_89 hf (fun v8 hf => ?_)
    refine E_aload_n (pc := 90) O 0 dX4_load_90 rfl rfl ?_
    refine E_getR (pc := 91) O FL_RailSequenceModel_25 dX4_load_91 hf (fun v9 hf => ?_)
    refine E_iconst (pc := 94) O (4 : Int32) dX4_load_94 (by decide) ?_
    refine E_iload_n (pc := 95) O 2 dX4_load_95 rfl rfl ?_
    refine E_imul (pc := 96) O dX4_load_96 ?_
    refine E_iconst (pc := 97) O (2 : Int32) dX4_load_97 (by decide) ?_
    refine E_iadd (pc := 98) O dX4_load_98 ?_
    refine E_iaload (pc := 99) O dX4_load_99 hf (fun v10 hf => ?_)
    refine E_aload_n (pc := 100) O 0 dX4_load_100 rfl rfl ?_
    refine E_getR (pc := 101) O FL_RailSequenceModel_25 dX4_load_101 hf (fun v11 hf => ?_)
    refine E_iconst (pc := 104) O (4 : Int32) dX4_load_104 (by decide) ?_
    refine E_iload_n (pc := 105) O 2 dX4_load_105 rfl rfl ?_
    refine E_imul (pc := 106) O dX4_load_106 ?_
    refine E_iconst (pc := 107) O (3 : Int32) dX4_load_107 (by decide) ?_
    refine E_iadd (pc := 108) O dX4_load_108 ?_
    refine E_iaload (pc := 109) O dX4_load_109 hf (fun v12 hf => ?_)
    refine E_callV_v (pc := 110) (S := []) O [.int v6, .int v8, .int v10, .int v12] CV_RailSequenceModel_113 rfl (fun r e => t_X4_bring e) dX4_load_110 hf rfl ⟨(Nat.le_of_ble_eq_true rfl), (Nat.le_of_ble_eq_true rfl)⟩ ⟨(Nat.le_of_ble_eq_true rfl), (Nat.le_of_ble_eq_true rfl)⟩ (Nat.le_of_ble_eq_true rfl) (fun h13 hf => ?_)
    refine E_iinc (pc := 113) O (1 : Int32) [some (.ref x0), none, some (.int (x2 + (1 : Int32)))] dX4_load_113 rfl (by decide) rfl (by decide) rfl ?_
    refine E_goto (pc := 116) O 63 dX4_load_116 (by decide) ?_
    exact hr63 h13 x0 (x2 + (1 : Int32)) hf
theorem t_f_X4_load_63 {K : Cx} {fr : Bool} {out : (Int32 × MH)} (O : Ok K yX4_load.cls cX4_load 3 (rmm 5 103 0 0)) (Z : Out K (some .int) fr (some (.int out.1)) out.2) : ∀ (n : Nat) (h : MH) (x0 : Nat) (x2 : Int32), f_X4_load_63 n h x0 x2 = some out → EE K (fr, 0, 0) 63 [some (.ref x0), none, some (.int x2)] [] h := by
  intro n
  induction n with
  | zero => intro h x0 x2 hf; cases hf
  | succ n ih => intro h x0 x2 hf; exact t_b_X4_load_63 O Z _ ih h x0 x2 hf
set_option maxHeartbeats 4000000 in
set_option maxRecDepth 100000 in
theorem t_b_X4_load_45 {K : Cx} {fr : Bool} {out : (Int32 × MH)} (O : Ok K yX4_load.cls cX4_load 3 (rmm 5 103 0 0)) (Z : Out K (some .int) fr (some (.int out.1)) out.2) (h : MH) (x0 : Nat) (s0 : Nat) (s1 : Int32) (hf : b_X4_load_45 h x0 s0 s1 = some out) : EE K (fr, 0, 0) 45 [some (.ref x0), none, none] [.int s1, .ref s0] h := by
  unfold b_X4_load_45 at hf
  refine E_put (pc := 45) O FN_RailSequenceModel_28 rfl rfl dX4_load_45 hf (fun h14 hf => ?_)
  refine E_aload_n (pc := 48) O 0 dX4_load_48 rfl rfl ?_
  refine E_getI (pc := 49) O FL_RailSequenceModel_28 dX4_load_49 hf (fun v15 hf => ?_)
  refine E_if_le (pc := 52) O 57 dX4_load_52 (by decide) hf (fun hf => ?_) (fun hf => ?_)
  · refine E_aload_n (pc := 57) O 0 dX4_load_57 rfl rfl ?_
    refine E_callV_v (pc := 58) (S := []) O [] CV_RailSequenceModel_110 rfl (fun r e => t_X4_save e) dX4_load_58 hf rfl ⟨(Nat.le_of_ble_eq_true rfl), (Nat.le_of_ble_eq_true rfl)⟩ ⟨(Nat.le_of_ble_eq_true rfl), (Nat.le_of_ble_eq_true rfl)⟩ (Nat.le_of_ble_eq_true rfl) (fun h16 hf => ?_)
    refine E_iconst (pc := 61) O (0 : Int32) dX4_load_61 (by decide) ?_
    refine E_istore_n (pc := 62) O 2 [some (.ref x0), none, some (.int (0 : Int32))] dX4_load_62 rfl (by decide) rfl rfl ?_
    exact t_f_X4_load_63 O Z FU h16 x0 (0 : Int32) hf
  · refine E_iconst (pc := 55) O (0 : Int32) dX4_load_55 (by decide) ?_
    exact E_iret (pc := 56) O Z hf ⟨(Nat.le_of_ble_eq_true rfl), (Nat.le_of_ble_eq_true rfl)⟩ dX4_load_56
set_option maxHeartbeats 4000000 in
set_option maxRecDepth 100000 in
theorem t_b_X4_load_23 {K : Cx} {fr : Bool} {out : (Int32 × MH)} (O : Ok K yX4_load.cls cX4_load 3 (rmm 5 103 0 0)) (Z : Out K (some .int) fr (some (.int out.1)) out.2) (h : MH) (x0 : Nat) (s0 : Int32) (hf : b_X4_load_23 h x0 s0 = some out) : EE K (fr, 0, 0) 23 [some (.ref x0), none, none] [.int s0] h := by
  unfold b_X4_load_23 at hf
  refine E_istore_n (pc := 23) O 1 [some (.ref x0), some (.int s0), none] dX4_load_23 rfl (by decide) rfl rfl ?_
  refine E_aload_n (pc := 24) O 0 dX4_load_24 rfl rfl ?_
  refine E_iload_n (pc := 25) O 1 dX4_load_25 rfl rfl ?_
  refine E_if_ne (pc := 26) O 33 dX4_load_26 (by decide) hf (fun hf => ?_) (fun hf => ?_)
  · refine E_aload_n (pc := 33) O 0 dX4_load_33 rfl rfl ?_
    refine E_callV_iP (pc := 34) (S := [.ref x0]) O [] CV_RailSequenceModel_173 rfl (fun r e => t_X4_isEarlier e) dX4_load_34 hf rfl ⟨(Nat.le_of_ble_eq_true rfl), (Nat.le_of_ble_eq_true rfl)⟩ ⟨(Nat.le_of_ble_eq_true rfl), (Nat.le_of_ble_eq_true rfl)⟩ (Nat.le_of_ble_eq_true rfl) (fun v17 hf => ?_)
    refine E_if_eq (pc := 37) O 44 dX4_load_37 (by decide) hf (fun hf => ?_) (fun hf => ?_)
    · refine E_iconst (pc := 44) O (2 : Int32) dX4_load_44 (by decide) ?_
      exact E_sub (L' := [some (.ref x0), none, none]) (And.intro rfl True.intro) (t_b_X4_load_45 O Z h x0 x0 (2 : Int32) hf)
    · refine E_iconst (pc := 40) O (0 : Int32) dX4_load_40 (by decide) ?_
      refine E_goto (pc := 41) O 45 dX4_load_41 (by decide) ?_
      exact E_sub (L' := [some (.ref x0), none, none]) (And.intro rfl True.intro) (t_b_X4_load_45 O Z h x0 x0 (0 : Int32) hf)
  · refine E_iconst (pc := 29) O (1 : Int32) dX4_load_29 (by decide) ?_
    refine E_goto (pc := 30) O 45 dX4_load_30 (by decide) ?_
    exact E_sub (L' := [some (.ref x0), none, none]) (And.intro rfl True.intro) (t_b_X4_load_45 O Z h x0 x0 (1 : Int32) hf)
set_option maxHeartbeats 4000000 in
set_option maxRecDepth 100000 in
theorem t_b_X4_load_22 {K : Cx} {fr : Bool} {out : (Int32 × MH)} (O : Ok K yX4_load.cls cX4_load 3 (rmm 5 103 0 0)) (Z : Out K (some .int) fr (some (.int out.1)) out.2) (h : MH) (x0 : Nat) (hf : b_X4_load_22 h x0 = some out) : EE K (fr, 0, 0) 22 [some (.ref x0), none, none] [] h := by
  unfold b_X4_load_22 at hf
  refine E_iconst (pc := 22) O (0 : Int32) dX4_load_22 (by decide) ?_
  exact t_b_X4_load_23 O Z h x0 (0 : Int32) hf
set_option maxHeartbeats 4000000 in
set_option maxRecDepth 100000 in
theorem t_X4_load {g : Gx} {fr : Bool} {h : MH} {x0} {out : (Int32 × MH)} (hf : f_X4_load h x0 = some out) : MM g yX4_load cX4_load 3 (some .int) 5 103 0 0 fr fr [.ref x0] h (some (.int out.1)) out.2 := by
  unfold f_X4_load at hf
  refine MM_of (L := [some (.ref x0), none, none]) (by decide) (Nat.le_of_ble_eq_true rfl) rfl (fun K hK O Z hn => ?_)
  refine E_aload_n (pc := 0) O 0 dX4_load_0 rfl rfl ?_
  refine E_callV_i (pc := 1) (S := []) O [] CV_RailSequenceModel_170 rfl (fun r e => t_X4_readText e) dX4_load_1 hf rfl ⟨(Nat.le_of_ble_eq_true rfl), (Nat.le_of_ble_eq_true rfl)⟩ ⟨(Nat.le_of_ble_eq_true rfl), (Nat.le_of_ble_eq_true rfl)⟩ (Nat.le_of_ble_eq_true rfl) (fun p18 hf => ?_)
  refine E_aload_n (pc := 4) O 0 dX4_load_4 rfl rfl ?_
  refine E_getI (pc := 5) O FL_RailSequenceModel_135 dX4_load_5 hf (fun v19 hf => ?_)
  refine E_icmp_ne (pc := 8) O 22 dX4_load_8 (by decide) hf (fun hf => ?_) (fun hf => ?_)
  · exact t_b_X4_load_22 O Z p18.2 x0 hf
  · refine E_aload_n (pc := 11) O 0 dX4_load_11 rfl rfl ?_
    refine E_callV_iP (pc := 12) (S := []) O [] CV_RailSequenceModel_161 rfl (fun r e => t_X4_isRailOver e) dX4_load_12 hf rfl ⟨(Nat.le_of_ble_eq_true rfl), (Nat.le_of_ble_eq_true rfl)⟩ ⟨(Nat.le_of_ble_eq_true rfl), (Nat.le_of_ble_eq_true rfl)⟩ (Nat.le_of_ble_eq_true rfl) (fun v20 hf => ?_)
    refine E_if_eq (pc := 15) O 22 dX4_load_15 (by decide) hf (fun hf => ?_) (fun hf => ?_)
    · exact t_b_X4_load_22 O Z p18.2 x0 hf
    · refine E_iconst (pc := 18) O (1 : Int32) dX4_load_18 (by decide) ?_
      refine E_goto (pc := 19) O 23 dX4_load_19 (by decide) ?_
      exact t_b_X4_load_23 O Z p18.2 x0 (1 : Int32) hf
set_option maxHeartbeats 4000000 in
set_option maxRecDepth 100000 in
theorem t_b_X4_firstBlame_46 {K : Cx} {fr : Bool} {out : Int32} {h : MH} (O : Ok K yX4_firstBlame.cls cX4_firstBlame 3 (rmm 1 22 0 0)) (Z : Out K (some .int) fr (some (.int out)) h) (x2 : Int32) (hf : b_X4_firstBlame_46 h x2 = some out) : EE K (fr, 0, 0) 46 [none, none, some (.int x2)] [] h := by
  unfold b_X4_firstBlame_46 at hf
  refine E_iload_n (pc := 46) O 2 dX4_firstBlame_46 rfl rfl ?_
  exact E_iretP (pc := 47) O Z hf ⟨(Nat.le_of_ble_eq_true rfl), (Nat.le_of_ble_eq_true rfl)⟩ dX4_firstBlame_47
set_option maxHeartbeats 4000000 in
set_option maxRecDepth 100000 in
theorem t_b_X4_firstBlame_8 {K : Cx} {fr : Bool} {out : Int32} {h : MH} (O : Ok K yX4_firstBlame.cls cX4_firstBlame 3 (rmm 1 22 0 0)) (Z : Out K (some .int) fr (some (.int out)) h) (rec8 : Nat → Int32 → Option Int32) (hr8 : ∀ (x0 : Nat) (x2 : Int32), rec8 x0 x2 = some out → EE K (fr, 0, 0) 8 [some (.ref x0), none, some (.int x2)] [] h) (x0 : Nat) (x2 : Int32) (hf : b_X4_firstBlame_8 h rec8 x0 x2 = some out) : EE K (fr, 0, 0) 8 [some (.ref x0), none, some (.int x2)] [] h := by
  unfold b_X4_firstBlame_8 at hf
  refine E_iload_n (pc := 8) O 2 dX4_firstBlame_8 rfl rfl ?_
  refine E_iconst (pc := 9) O (-1 : Int32) dX4_firstBlame_9 (by decide) ?_
  refine E_icmp_eq (pc := 10) O 46 dX4_firstBlame_10 (by decide) hf (fun hf => ?_) (fun hf => ?_)
  · exact E_sub (L' := [none, none, some (.int x2)]) (And.intro rfl True.intro) (t_b_X4_firstBlame_46 O Z x2 hf)
  · refine E_aload_n (pc := 13) O 0 dX4_firstBlame_13 rfl rfl ?_
    refine E_iload_n (pc := 14) O 2 dX4_firstBlame_14 rfl rfl ?_
    refine E_bipush (pc := 15) O (15 : Int32) dX4_firstBlame_15 (by decide) ?_
    refine E_callV_iP (pc := 17) (S := []) O [.int x2, .int (15 : Int32)] CV_RailSequenceModel_36 rfl (fun r e => t_X4_of e) dX4_firstBlame_17 hf rfl ⟨(Nat.le_of_ble_eq_true rfl), (Nat.le_of_ble_eq_true rfl)⟩ ⟨(Nat.le_of_ble_eq_true rfl), (Nat.le_of_ble_eq_true rfl)⟩ (Nat.le_of_ble_eq_true rfl) (fun v1 hf => ?_)
    refine E_iconst (pc := 20) O (-1 : Int32) dX4_firstBlame_20 (by decide) ?_
    refine E_icmp_eq (pc := 21) O 46 dX4_firstBlame_21 (by decide) hf (fun hf => ?_) (fun hf => ?_)
    · exact E_sub (L' := [none, none, some (.int x2)]) (And.intro rfl True.intro) (t_b_X4_firstBlame_46 O Z x2 hf)
    · refine E_aload_n (pc := 24) O 0 dX4_firstBlame_24 rfl rfl ?_
      refine E_iload_n (pc := 25) O 2 dX4_firstBlame_25 rfl rfl ?_
      refine E_bipush (pc := 26) O (15 : Int32) dX4_firstBlame_26 (by decide) ?_
      refine E_callV_iP (pc := 28) (S := []) O [.int x2, .int (15 : Int32)] CV_RailSequenceModel_36 rfl (fun r e => t_X4_of e) dX4_firstBlame_28 hf rfl ⟨(Nat.le_of_ble_eq_true rfl), (Nat.le_of_ble_eq_true rfl)⟩ ⟨(Nat.le_of_ble_eq_true rfl), (Nat.le_of_ble_eq_true rfl)⟩ (Nat.le_of_ble_eq_true rfl) (fun v2 hf => ?_)
      refine E_iload_n (pc := 31) O 2 dX4_firstBlame_31 rfl rfl ?_
      refine E_icmp_eq (pc := 32) O 46 dX4_firstBlame_32 (by decide) hf (fun hf => ?_) (fun hf => ?_)
      · exact E_sub (L' := [none, none, some (.int x2)]) (And.intro rfl True.intro) (t_b_X4_firstBlame_46 O Z x2 hf)
      · refine E_aload_n (pc := 35) O 0 dX4_firstBlame_35 rfl rfl ?_
        refine E_iload_n (pc := 36) O 2 dX4_firstBlame_36 rfl rfl ?_
        refine E_bipush (pc := 37) O (15 : Int32) dX4_firstBlame_37 (by decide) ?_
        refine E_callV_iP (pc := 39) (S := []) O [.int x2, .int (15 : Int32)] CV_RailSequenceModel_36 rfl (fun r e => t_X4_of e) dX4_firstBlame_39 hf rfl ⟨(Nat.le_of_ble_eq_true rfl), (Nat.le_of_ble_eq_true rfl)⟩ ⟨(Nat.le_of_ble_eq_true rfl), (Nat.le_of_ble_eq_true rfl)⟩ (Nat.le_of_ble_eq_true rfl) (fun v3 hf => ?_)
        refine E_istore_n (pc := 42) O 2 [some (.ref x0), none, some (.int v3)] dX4_firstBlame_42 rfl (by decide) rfl rfl ?_
        refine E_goto (pc := 43) O 8 dX4_firstBlame_43 (by decide) ?_
        exact hr8 x0 v3 hf
theorem t_f_X4_firstBlame_8 {K : Cx} {fr : Bool} {out : Int32} {h : MH} (O : Ok K yX4_firstBlame.cls cX4_firstBlame 3 (rmm 1 22 0 0)) (Z : Out K (some .int) fr (some (.int out)) h) : ∀ (n : Nat) (x0 : Nat) (x2 : Int32), f_X4_firstBlame_8 h n x0 x2 = some out → EE K (fr, 0, 0) 8 [some (.ref x0), none, some (.int x2)] [] h := by
  intro n
  induction n with
  | zero => intro x0 x2 hf; cases hf
  | succ n ih => intro x0 x2 hf; exact t_b_X4_firstBlame_8 O Z _ ih x0 x2 hf
set_option maxHeartbeats 4000000 in
set_option maxRecDepth 100000 in
theorem t_X4_firstBlame {g : Gx} {fr : Bool} {h : MH} {x0 x1} {out : Int32} (hf : f_X4_firstBlame h x0 x1 = some out) : MM g yX4_firstBlame cX4_firstBlame 3 (some .int) 1 22 0 0 fr fr [.ref x0, .int x1] h (some (.int out)) h := by
  unfold f_X4_firstBlame at hf
  refine MM_of (L := [some (.ref x0), some (.int x1), none]) (by decide) (Nat.le_of_ble_eq_true rfl) rfl (fun K hK O Z hn => ?_)
  refine E_aload_n (pc := 0) O 0 dX4_firstBlame_0 rfl rfl ?_
  refine E_iload_n (pc := 1) O 1 dX4_firstBlame_1 rfl rfl ?_
  refine E_bipush (pc := 2) O (15 : Int32) dX4_firstBlame_2 (by decide) ?_
  refine E_callV_iP (pc := 4) (S := []) O [.int x1, .int (15 : Int32)] CV_RailSequenceModel_36 rfl (fun r e => t_X4_of e) dX4_firstBlame_4 hf rfl ⟨(Nat.le_of_ble_eq_true rfl), (Nat.le_of_ble_eq_true rfl)⟩ ⟨(Nat.le_of_ble_eq_true rfl), (Nat.le_of_ble_eq_true rfl)⟩ (Nat.le_of_ble_eq_true rfl) (fun v4 hf => ?_)
  refine E_istore_n (pc := 7) O 2 [some (.ref x0), some (.int x1), some (.int v4)] dX4_firstBlame_7 rfl (by decide) rfl rfl ?_
  exact E_sub (L' := [some (.ref x0), none, some (.int v4)]) (And.intro rfl (And.intro rfl True.intro)) (t_f_X4_firstBlame_8 O Z FU x0 v4 hf)
set_option maxHeartbeats 4000000 in
set_option maxRecDepth 100000 in
theorem t_b_X4_railNow_103 {K : Cx} {fr : Bool} {out : Int32} {h : MH} (O : Ok K yX4_railNow.cls cX4_railNow 3 (rmm 2 45 0 0)) (Z : Out K (some .int) fr (some (.int out)) h) (s0 : Int32) (hf : b_X4_railNow_103 h s0 = some out) : EE K (fr, 0, 0) 103 [none, none, none] [.int s0] h := by
  unfold b_X4_railNow_103 at hf
  exact E_iretP (pc := 103) O Z hf ⟨(Nat.le_of_ble_eq_true rfl), (Nat.le_of_ble_eq_true rfl)⟩ dX4_railNow_103
set_option maxHeartbeats 4000000 in
set_option maxRecDepth 100000 in
theorem t_X4_railNow {g : Gx} {fr : Bool} {h : MH} {x0 x1 x2} {out : Int32} (hf : f_X4_railNow h x0 x1 x2 = some out) : MM g yX4_railNow cX4_railNow 3 (some .int) 2 45 0 0 fr fr [.ref x0, .int x1, .int x2] h (some (.int out)) h := by
  unfold f_X4_railNow at hf
  refine MM_of (L := [some (.ref x0), some (.int x1), some (.int x2)]) (by decide) (Nat.le_of_ble_eq_true rfl) rfl (fun K hK O Z hn => ?_)
  refine E_iload_n (pc := 0) O 2 dX4_railNow_0 rfl rfl ?_
  refine E_ite hf (fun c1 hf => ?_) (fun n1_0 hf => ?_)
  · refine E_tswIn (pc := 1) (off := 59) O 8 60 c1 dX4_railNow_1 (by decide) (by decide) (by decide) (by decide) ?_
    refine E_aload_n (pc := 60) O 0 dX4_railNow_60 rfl rfl ?_
    refine E_iload_n (pc := 61) O 1 dX4_railNow_61 rfl rfl ?_
    refine E_callV_iP (pc := 62) (S := []) O [.int x1] CV_RailSequenceModel_129 rfl (fun r e => t_X4_followers e) dX4_railNow_62 hf rfl ⟨(Nat.le_of_ble_eq_true rfl), (Nat.le_of_ble_eq_true rfl)⟩ ⟨(Nat.le_of_ble_eq_true rfl), (Nat.le_of_ble_eq_true rfl)⟩ (Nat.le_of_ble_eq_true rfl) (fun v1 hf => ?_)
    exact E_iretP (pc := 65) O Z hf ⟨(Nat.le_of_ble_eq_true rfl), (Nat.le_of_ble_eq_true rfl)⟩ dX4_railNow_65
  · refine E_ite hf (fun c1 hf => ?_) (fun n1_1 hf => ?_)
    · refine E_tswIn (pc := 1) (off := 65) O 9 66 c1 dX4_railNow_1 (by decide) (by decide) (by decide) (by decide) ?_
      refine E_aload_n (pc := 66) O 0 dX4_railNow_66 rfl rfl ?_
      refine E_iload_n (pc := 67) O 1 dX4_railNow_67 rfl rfl ?_
      refine E_bipush (pc := 68) O (8 : Int32) dX4_railNow_68 (by decide) ?_
      refine E_callV_iP (pc := 70) (S := []) O [.int x1, .int (8 : Int32)] CV_RailSequenceModel_36 rfl (fun r e => t_X4_of e) dX4_railNow_70 hf rfl ⟨(Nat.le_of_ble_eq_true rfl), (Nat.le_of_ble_eq_true rfl)⟩ ⟨(Nat.le_of_ble_eq_true rfl), (Nat.le_of_ble_eq_true rfl)⟩ (Nat.le_of_ble_eq_true rfl) (fun v2 hf => ?_)
      exact E_iretP (pc := 73) O Z hf ⟨(Nat.le_of_ble_eq_true rfl), (Nat.le_of_ble_eq_true rfl)⟩ dX4_railNow_73
    · refine E_ite hf (fun c1 hf => ?_) (fun n1_2 hf => ?_)
      · refine E_tswIn (pc := 1) (off := 73) O 10 74 c1 dX4_railNow_1 (by decide) (by decide) (by decide) (by decide) ?_
        refine E_aload_n (pc := 74) O 0 dX4_railNow_74 rfl rfl ?_
        refine E_iload_n (pc := 75) O 1 dX4_railNow_75 rfl rfl ?_
        refine E_bipush (pc := 76) O (9 : Int32) dX4_railNow_76 (by decide) ?_
        refine E_callV_iP (pc := 78) (S := []) O [.int x1, .int (9 : Int32)] CV_RailSequenceModel_36 rfl (fun r e => t_X4_of e) dX4_railNow_78 hf rfl ⟨(Nat.le_of_ble_eq_true rfl), (Nat.le_of_ble_eq_true rfl)⟩ ⟨(Nat.le_of_ble_eq_true rfl), (Nat.le_of_ble_eq_true rfl)⟩ (Nat.le_of_ble_eq_true rfl) (fun v3 hf => ?_)
        exact E_iretP (pc := 81) O Z hf ⟨(Nat.le_of_ble_eq_true rfl), (Nat.le_of_ble_eq_true rfl)⟩ dX4_railNow_81
      · refine E_ite hf (fun c1 hf => ?_) (fun n1_3 hf => ?_)
        · refine E_tswIn (pc := 1) (off := 81) O 11 82 c1 dX4_railNow_1 (by decide) (by decide) (by decide) (by decide) ?_
          refine E_aload_n (pc := 82) O 0 dX4_railNow_82 rfl rfl ?_
          refine E_iload_n (pc := 83) O 1 dX4_railNow_83 rfl rfl ?_
          refine E_bipush (pc := 84) O (10 : Int32) dX4_railNow_84 (by decide) ?_
          refine E_callV_iP (pc := 86) (S := []) O [.int x1, .int (10 : Int32)] CV_RailSequenceModel_36 rfl (fun r e => t_X4_of e) dX4_railNow_86 hf rfl ⟨(Nat.le_of_ble_eq_true rfl), (Nat.le_of_ble_eq_true rfl)⟩ ⟨(Nat.le_of_ble_eq_true rfl), (Nat.le_of_ble_eq_true rfl)⟩ (Nat.le_of_ble_eq_true rfl) (fun v4 hf => ?_)
          exact E_iretP (pc := 89) O Z hf ⟨(Nat.le_of_ble_eq_true rfl), (Nat.le_of_ble_eq_true rfl)⟩ dX4_railNow_89
        · refine E_ite hf (fun c1 hf => ?_) (fun n1_4 hf => ?_)
          · refine E_tswIn (pc := 1) (off := 89) O 12 90 c1 dX4_railNow_1 (by decide) (by decide) (by decide) (by decide) ?_
            refine E_aload_n (pc := 90) O 0 dX4_railNow_90 rfl rfl ?_
            refine E_iload_n (pc := 91) O 1 dX4_railNow_91 rfl rfl ?_
            refine E_callV_iP (pc := 92) (S := []) O [.int x1] CV_RailSequenceModel_65 rfl (fun r e => t_X4_isFlag e) dX4_railNow_92 hf rfl ⟨(Nat.le_of_ble_eq_true rfl), (Nat.le_of_ble_eq_true rfl)⟩ ⟨(Nat.le_of_ble_eq_true rfl), (Nat.le_of_ble_eq_true rfl)⟩ (Nat.le_of_ble_eq_true rfl) (fun v5 hf => ?_)
            refine E_if_eq (pc := 95) O 102 dX4_railNow_95 (by decide) hf (fun hf => ?_) (fun hf => ?_)
            · refine E_iconst (pc := 102) O (0 : Int32) dX4_railNow_102 (by decide) ?_
              exact E_sub (L' := [none, none, none]) True.intro (t_b_X4_railNow_103 O Z (0 : Int32) hf)
            · refine E_iconst (pc := 98) O (1 : Int32) dX4_railNow_98 (by decide) ?_
              refine E_goto (pc := 99) O 103 dX4_railNow_99 (by decide) ?_
              exact E_sub (L' := [none, none, none]) True.intro (t_b_X4_railNow_103 O Z (1 : Int32) hf)
          · refine E_ite hf (fun c1 hf => ?_) (fun n1_5 hf => ?_)
            · refine E_tswIn (pc := 1) (off := 103) O 13 104 c1 dX4_railNow_1 (by decide) (by decide) (by decide) (by decide) ?_
              refine E_aload_n (pc := 104) O 0 dX4_railNow_104 rfl rfl ?_
              refine E_iload_n (pc := 105) O 1 dX4_railNow_105 rfl rfl ?_
              refine E_bipush (pc := 106) O (11 : Int32) dX4_railNow_106 (by decide) ?_
              refine E_callV_iP (pc := 108) (S := []) O [.int x1, .int (11 : Int32)] CV_RailSequenceModel_36 rfl (fun r e => t_X4_of e) dX4_railNow_108 hf rfl ⟨(Nat.le_of_ble_eq_true rfl), (Nat.le_of_ble_eq_true rfl)⟩ ⟨(Nat.le_of_ble_eq_true rfl), (Nat.le_of_ble_eq_true rfl)⟩ (Nat.le_of_ble_eq_true rfl) (fun v6 hf => ?_)
              exact E_iretP (pc := 111) O Z hf ⟨(Nat.le_of_ble_eq_true rfl), (Nat.le_of_ble_eq_true rfl)⟩ dX4_railNow_111
            · refine E_ite hf (fun c1 hf => ?_) (fun n1_6 hf => ?_)
              · refine E_tswIn (pc := 1) (off := 111) O 14 112 c1 dX4_railNow_1 (by decide) (by decide) (by decide) (by decide) ?_
                refine E_aload_n (pc := 112) O 0 dX4_railNow_112 rfl rfl ?_
                refine E_iload_n (pc := 113) O 1 dX4_railNow_113 rfl rfl ?_
                refine E_bipush (pc := 114) O (12 : Int32) dX4_railNow_114 (by decide) ?_
                refine E_callV_iP (pc := 116) (S := []) O [.int x1, .int (12 : Int32)] CV_RailSequenceModel_36 rfl (fun r e => t_X4_of e) dX4_railNow_116 hf rfl ⟨(Nat.le_of_ble_eq_true rfl), (Nat.le_of_ble_eq_true rfl)⟩ ⟨(Nat.le_of_ble_eq_true rfl), (Nat.le_of_ble_eq_true rfl)⟩ (Nat.le_of_ble_eq_true rfl) (fun v7 hf => ?_)
                exact E_iretP (pc := 119) O Z hf ⟨(Nat.le_of_ble_eq_true rfl), (Nat.le_of_ble_eq_true rfl)⟩ dX4_railNow_119
              · refine E_ite hf (fun c1 hf => ?_) (fun n1_7 hf => ?_)
                · refine E_tswIn (pc := 1) (off := 119) O 15 120 c1 dX4_railNow_1 (by decide) (by decide) (by decide) (by decide) ?_
                  refine E_aload_n (pc := 120) O 0 dX4_railNow_120 rfl rfl ?_
                  refine E_iload_n (pc := 121) O 1 dX4_railNow_121 rfl rfl ?_
                  refine E_bipush (pc := 122) O (13 : Int32) dX4_railNow_122 (by decide) ?_
                  refine E_callV_iP (pc := 124) (S := []) O [.int x1, .int (13 : Int32)] CV_RailSequenceModel_36 rfl (fun r e => t_X4_of e) dX4_railNow_124 hf rfl ⟨(Nat.le_of_ble_eq_true rfl), (Nat.le_of_ble_eq_true rfl)⟩ ⟨(Nat.le_of_ble_eq_true rfl), (Nat.le_of_ble_eq_true rfl)⟩ (Nat.le_of_ble_eq_true rfl) (fun v8 hf => ?_)
                  exact E_iretP (pc := 127) O Z hf ⟨(Nat.le_of_ble_eq_true rfl), (Nat.le_of_ble_eq_true rfl)⟩ dX4_railNow_127
                · refine E_ite hf (fun c1 hf => ?_) (fun n1_8 hf => ?_)
                  · refine E_tswIn (pc := 1) (off := 127) O 16 128 c1 dX4_railNow_1 (by decide) (by decide) (by decide) (by decide) ?_
                    refine E_aload_n (pc := 128) O 0 dX4_railNow_128 rfl rfl ?_
                    refine E_iload_n (pc := 129) O 1 dX4_railNow_129 rfl rfl ?_
                    refine E_bipush (pc := 130) O (14 : Int32) dX4_railNow_130 (by decide) ?_
                    refine E_callV_iP (pc := 132) (S := []) O [.int x1, .int (14 : Int32)] CV_RailSequenceModel_36 rfl (fun r e => t_X4_of e) dX4_railNow_132 hf rfl ⟨(Nat.le_of_ble_eq_true rfl), (Nat.le_of_ble_eq_true rfl)⟩ ⟨(Nat.le_of_ble_eq_true rfl), (Nat.le_of_ble_eq_true rfl)⟩ (Nat.le_of_ble_eq_true rfl) (fun v9 hf => ?_)
                    exact E_iretP (pc := 135) O Z hf ⟨(Nat.le_of_ble_eq_true rfl), (Nat.le_of_ble_eq_true rfl)⟩ dX4_railNow_135
                  · refine E_ite hf (fun c1 hf => ?_) (fun n1_9 hf => ?_)
                    · refine E_tswIn (pc := 1) (off := 135) O 17 136 c1 dX4_railNow_1 (by decide) (by decide) (by decide) (by decide) ?_
                      refine E_aload_n (pc := 136) O 0 dX4_railNow_136 rfl rfl ?_
                      refine E_iload_n (pc := 137) O 1 dX4_railNow_137 rfl rfl ?_
                      refine E_bipush (pc := 138) O (15 : Int32) dX4_railNow_138 (by decide) ?_
                      refine E_callV_iP (pc := 140) (S := []) O [.int x1, .int (15 : Int32)] CV_RailSequenceModel_36 rfl (fun r e => t_X4_of e) dX4_railNow_140 hf rfl ⟨(Nat.le_of_ble_eq_true rfl), (Nat.le_of_ble_eq_true rfl)⟩ ⟨(Nat.le_of_ble_eq_true rfl), (Nat.le_of_ble_eq_true rfl)⟩ (Nat.le_of_ble_eq_true rfl) (fun v10 hf => ?_)
                      exact E_iretP (pc := 143) O Z hf ⟨(Nat.le_of_ble_eq_true rfl), (Nat.le_of_ble_eq_true rfl)⟩ dX4_railNow_143
                    · refine E_ite hf (fun c1 hf => ?_) (fun n1_10 hf => ?_)
                      · refine E_tswIn (pc := 1) (off := 143) O 18 144 c1 dX4_railNow_1 (by decide) (by decide) (by decide) (by decide) ?_
                        refine E_aload_n (pc := 144) O 0 dX4_railNow_144 rfl rfl ?_
                        refine E_iload_n (pc := 145) O 1 dX4_railNow_145 rfl rfl ?_
                        refine E_callV_iP (pc := 146) (S := []) O [.int x1] CV_RailSequenceModel_176 rfl (fun r e => t_X4_firstBlame e) dX4_railNow_146 hf rfl ⟨(Nat.le_of_ble_eq_true rfl), (Nat.le_of_ble_eq_true rfl)⟩ ⟨(Nat.le_of_ble_eq_true rfl), (Nat.le_of_ble_eq_true rfl)⟩ (Nat.le_of_ble_eq_true rfl) (fun v11 hf => ?_)
                        exact E_iretP (pc := 149) O Z hf ⟨(Nat.le_of_ble_eq_true rfl), (Nat.le_of_ble_eq_true rfl)⟩ dX4_railNow_149
                      · refine E_tswOut (pc := 1) O 150 dX4_railNow_1 (by have z := tsw_out 8 11 (by decide) (lt_s (lt_s (lt_s (lt_s (lt_s (lt_s (lt_s (lt_s (lt_s (lt_s (lt_s lt_0 n1_0) n1_1) n1_2) n1_3) n1_4) n1_5) n1_6) n1_7) n1_8) n1_9) n1_10); omega) (by decide) ?_
                        refine E_aload_n (pc := 150) O 0 dX4_railNow_150 rfl rfl ?_
                        refine E_iload_n (pc := 151) O 1 dX4_railNow_151 rfl rfl ?_
                        refine E_iload_n (pc := 152) O 2 dX4_railNow_152 rfl rfl ?_
                        refine E_callV_iP (pc := 153) (S := []) O [.int x1, .int x2] CV_RailSequenceModel_36 rfl (fun r e => t_X4_of e) dX4_railNow_153 hf rfl ⟨(Nat.le_of_ble_eq_true rfl), (Nat.le_of_ble_eq_true rfl)⟩ ⟨(Nat.le_of_ble_eq_true rfl), (Nat.le_of_ble_eq_true rfl)⟩ (Nat.le_of_ble_eq_true rfl) (fun v12 hf => ?_)
                        exact E_iretP (pc := 156) O Z hf ⟨(Nat.le_of_ble_eq_true rfl), (Nat.le_of_ble_eq_true rfl)⟩ dX4_railNow_156
set_option maxHeartbeats 4000000 in
set_option maxRecDepth 100000 in
theorem t_b_X4_rail_48 {K : Cx} {fr : Bool} {out : (Int32 × MH)} (O : Ok K yX4_rail.cls cX4_rail 3 (rmm 3 67 0 0)) (Z : Out K (some .int) fr (some (.int out.1)) out.2) (h : MH) (s0 : Int32) (hf : b_X4_rail_48 h s0 = some out) : EE K (fr, 0, 0) 48 [none, none, none] [.int s0] h := by
  unfold b_X4_rail_48 at hf
  exact E_iret (pc := 48) O Z hf ⟨(Nat.le_of_ble_eq_true rfl), (Nat.le_of_ble_eq_true rfl)⟩ dX4_rail_48
set_option maxHeartbeats 4000000 in
set_option maxRecDepth 100000 in
theorem t_b_X4_rail_28 {K : Cx} {fr : Bool} {out : (Int32 × MH)} (O : Ok K yX4_rail.cls cX4_rail 3 (rmm 3 67 0 0)) (Z : Out K (some .int) fr (some (.int out.1)) out.2) (h : MH) (x0 : Nat) (x1 : Int32) (x2 : Int32) (s0 : Nat) (s1 : Int32) (hf : b_X4_rail_28 h x0 x1 x2 s0 s1 = some out) : EE K (fr, 0, 0) 28 [some (.ref x0), some (.int x1), some (.int x2)] [.int s1, .ref s0] h := by
  unfold b_X4_rail_28 at hf
  refine E_put (pc := 28) O FN_RailSequenceModel_28 rfl rfl dX4_rail_28 hf (fun h1 hf => ?_)
  refine E_aload_n (pc := 31) O 0 dX4_rail_31 rfl rfl ?_
  refine E_getI (pc := 32) O FL_RailSequenceModel_28 dX4_rail_32 hf (fun v2 hf => ?_)
  refine E_if_le (pc := 35) O 42 dX4_rail_35 (by decide) hf (fun hf => ?_) (fun hf => ?_)
  · refine E_aload_n (pc := 42) O 0 dX4_rail_42 rfl rfl ?_
    refine E_iload_n (pc := 43) O 1 dX4_rail_43 rfl rfl ?_
    refine E_iload_n (pc := 44) O 2 dX4_rail_44 rfl rfl ?_
    refine E_callV_iP (pc := 45) (S := []) O [.int x1, .int x2] CV_RailSequenceModel_179 rfl (fun r e => t_X4_railNow e) dX4_rail_45 hf rfl ⟨(Nat.le_of_ble_eq_true rfl), (Nat.le_of_ble_eq_true rfl)⟩ ⟨(Nat.le_of_ble_eq_true rfl), (Nat.le_of_ble_eq_true rfl)⟩ (Nat.le_of_ble_eq_true rfl) (fun v3 hf => ?_)
    exact E_sub (L' := [none, none, none]) True.intro (t_b_X4_rail_48 O Z h1 v3 hf)
  · refine E_iconst (pc := 38) O (0 : Int32) dX4_rail_38 (by decide) ?_
    refine E_goto (pc := 39) O 48 dX4_rail_39 (by decide) ?_
    exact E_sub (L' := [none, none, none]) True.intro (t_b_X4_rail_48 O Z h1 (0 : Int32) hf)
set_option maxHeartbeats 4000000 in
set_option maxRecDepth 100000 in
theorem t_X4_rail {g : Gx} {fr : Bool} {h : MH} {x0 x1 x2} {out : (Int32 × MH)} (hf : f_X4_rail h x0 x1 x2 = some out) : MM g yX4_rail cX4_rail 3 (some .int) 3 67 0 0 fr fr [.ref x0, .int x1, .int x2] h (some (.int out.1)) out.2 := by
  unfold f_X4_rail at hf
  refine MM_of (L := [some (.ref x0), some (.int x1), some (.int x2)]) (by decide) (Nat.le_of_ble_eq_true rfl) rfl (fun K hK O Z hn => ?_)
  refine E_aload_n (pc := 0) O 0 dX4_rail_0 rfl rfl ?_
  refine E_aload_n (pc := 1) O 0 dX4_rail_1 rfl rfl ?_
  refine E_iload_n (pc := 2) O 1 dX4_rail_2 rfl rfl ?_
  refine E_callV_iP (pc := 3) (S := [.ref x0]) O [.int x1] CV_RailSequenceModel_117 rfl (fun r e => t_X4_isRail e) dX4_rail_3 hf rfl ⟨(Nat.le_of_ble_eq_true rfl), (Nat.le_of_ble_eq_true rfl)⟩ ⟨(Nat.le_of_ble_eq_true rfl), (Nat.le_of_ble_eq_true rfl)⟩ (Nat.le_of_ble_eq_true rfl) (fun v4 hf => ?_)
  refine E_if_ne (pc := 6) O 13 dX4_rail_6 (by decide) hf (fun hf => ?_) (fun hf => ?_)
  · refine E_iload_n (pc := 13) O 2 dX4_rail_13 rfl rfl ?_
    refine E_iconst (pc := 14) O (0 : Int32) dX4_rail_14 (by decide) ?_
    refine E_bipush (pc := 15) O (18 : Int32) dX4_rail_15 (by decide) ?_
    refine E_callS_iP (pc := 17) (S := [.ref x0]) O [.int x2, .int (0 : Int32), .int (18 : Int32)] CS_RailSequenceModel_32 (fun r e => t_X4_within e) dX4_rail_17 hf rfl ⟨(Nat.le_of_ble_eq_true rfl), (Nat.le_of_ble_eq_true rfl)⟩ ⟨(Nat.le_of_ble_eq_true rfl), (Nat.le_of_ble_eq_true rfl)⟩ (Nat.le_of_ble_eq_true rfl) (fun v5 hf => ?_)
    refine E_if_eq (pc := 20) O 27 dX4_rail_20 (by decide) hf (fun hf => ?_) (fun hf => ?_)
    · refine E_iconst (pc := 27) O (2 : Int32) dX4_rail_27 (by decide) ?_
      exact t_b_X4_rail_28 O Z h x0 x1 x2 x0 (2 : Int32) hf
    · refine E_iconst (pc := 23) O (0 : Int32) dX4_rail_23 (by decide) ?_
      refine E_goto (pc := 24) O 28 dX4_rail_24 (by decide) ?_
      exact t_b_X4_rail_28 O Z h x0 x1 x2 x0 (0 : Int32) hf
  · refine E_iconst (pc := 9) O (1 : Int32) dX4_rail_9 (by decide) ?_
    refine E_goto (pc := 10) O 28 dX4_rail_10 (by decide) ?_
    exact t_b_X4_rail_28 O Z h x0 x1 x2 x0 (1 : Int32) hf
set_option maxHeartbeats 4000000 in
set_option maxRecDepth 100000 in
theorem t_b_X4_account_50 {K : Cx} {fr : Bool} {out : (Int32 × MH)} (O : Ok K yX4_account.cls cX4_account 3 (rmm 2 43 0 0)) (Z : Out K (some .int) fr (some (.int out.1)) out.2) (h : MH) (s0 : Int32) (hf : b_X4_account_50 h s0 = some out) : EE K (fr, 0, 0) 50 [none, none, none] [.int s0] h := by
  unfold b_X4_account_50 at hf
  exact E_iret (pc := 50) O Z hf ⟨(Nat.le_of_ble_eq_true rfl), (Nat.le_of_ble_eq_true rfl)⟩ dX4_account_50
set_option maxHeartbeats 4000000 in
set_option maxRecDepth 100000 in
theorem t_b_X4_account_27 {K : Cx} {fr : Bool} {out : (Int32 × MH)} (O : Ok K yX4_account.cls cX4_account 3 (rmm 2 43 0 0)) (Z : Out K (some .int) fr (some (.int out.1)) out.2) (h : MH) (x0 : Nat) (x1 : Int32) (x2 : Int32) (s0 : Nat) (s1 : Int32) (hf : b_X4_account_27 h x0 x1 x2 s0 s1 = some out) : EE K (fr, 0, 0) 27 [some (.ref x0), some (.int x1), some (.int x2)] [.int s1, .ref s0] h := by
  unfold b_X4_account_27 at hf
  refine E_put (pc := 27) O FN_RailSequenceModel_28 rfl rfl dX4_account_27 hf (fun h1 hf => ?_)
  refine E_aload_n (pc := 30) O 0 dX4_account_30 rfl rfl ?_
  refine E_getI (pc := 31) O FL_RailSequenceModel_28 dX4_account_31 hf (fun v2 hf => ?_)
  refine E_if_le (pc := 34) O 41 dX4_account_34 (by decide) hf (fun hf => ?_) (fun hf => ?_)
  · refine E_aload_n (pc := 41) O 0 dX4_account_41 rfl rfl ?_
    refine E_iload_n (pc := 42) O 1 dX4_account_42 rfl rfl ?_
    refine E_bipush (pc := 43) O (16 : Int32) dX4_account_43 (by decide) ?_
    refine E_iload_n (pc := 45) O 2 dX4_account_45 rfl rfl ?_
    refine E_iadd (pc := 46) O dX4_account_46 ?_
    refine E_callV_iP (pc := 47) (S := []) O [.int x1, .int ((16 : Int32) + x2)] CV_RailSequenceModel_36 rfl (fun r e => t_X4_of e) dX4_account_47 hf rfl ⟨(Nat.le_of_ble_eq_true rfl), (Nat.le_of_ble_eq_true rfl)⟩ ⟨(Nat.le_of_ble_eq_true rfl), (Nat.le_of_ble_eq_true rfl)⟩ (Nat.le_of_ble_eq_true rfl) (fun v3 hf => ?_)
    exact E_sub (L' := [none, none, none]) True.intro (t_b_X4_account_50 O Z h1 v3 hf)
  · refine E_iconst (pc := 37) O (0 : Int32) dX4_account_37 (by decide) ?_
    refine E_goto (pc := 38) O 50 dX4_account_38 (by decide) ?_
    exact E_sub (L' := [none, none, none]) True.intro (t_b_X4_account_50 O Z h1 (0 : Int32) hf)
set_option maxHeartbeats 4000000 in
set_option maxRecDepth 100000 in
theorem t_X4_account {g : Gx} {fr : Bool} {h : MH} {x0 x1 x2} {out : (Int32 × MH)} (hf : f_X4_account h x0 x1 x2 = some out) : MM g yX4_account cX4_account 3 (some .int) 2 43 0 0 fr fr [.ref x0, .int x1, .int x2] h (some (.int out.1)) out.2 := by
  unfold f_X4_account at hf
  refine MM_of (L := [some (.ref x0), some (.int x1), some (.int x2)]) (by decide) (Nat.le_of_ble_eq_true rfl) rfl (fun K hK O Z hn => ?_)
  refine E_aload_n (pc := 0) O 0 dX4_account_0 rfl rfl ?_
  refine E_aload_n (pc := 1) O 0 dX4_account_1 rfl rfl ?_
  refine E_iload_n (pc := 2) O 1 dX4_account_2 rfl rfl ?_
  refine E_callV_iP (pc := 3) (S := [.ref x0]) O [.int x1] CV_RailSequenceModel_117 rfl (fun r e => t_X4_isRail e) dX4_account_3 hf rfl ⟨(Nat.le_of_ble_eq_true rfl), (Nat.le_of_ble_eq_true rfl)⟩ ⟨(Nat.le_of_ble_eq_true rfl), (Nat.le_of_ble_eq_true rfl)⟩ (Nat.le_of_ble_eq_true rfl) (fun v4 hf => ?_)
  refine E_if_ne (pc := 6) O 13 dX4_account_6 (by decide) hf (fun hf => ?_) (fun hf => ?_)
  · refine E_iload_n (pc := 13) O 2 dX4_account_13 rfl rfl ?_
    refine E_iconst (pc := 14) O (0 : Int32) dX4_account_14 (by decide) ?_
    refine E_iconst (pc := 15) O (3 : Int32) dX4_account_15 (by decide) ?_
    refine E_callS_iP (pc := 16) (S := [.ref x0]) O [.int x2, .int (0 : Int32), .int (3 : Int32)] CS_RailSequenceModel_32 (fun r e => t_X4_within e) dX4_account_16 hf rfl ⟨(Nat.le_of_ble_eq_true rfl), (Nat.le_of_ble_eq_true rfl)⟩ ⟨(Nat.le_of_ble_eq_true rfl), (Nat.le_of_ble_eq_true rfl)⟩ (Nat.le_of_ble_eq_true rfl) (fun v5 hf => ?_)
    refine E_if_eq (pc := 19) O 26 dX4_account_19 (by decide) hf (fun hf => ?_) (fun hf => ?_)
    · refine E_iconst (pc := 26) O (2 : Int32) dX4_account_26 (by decide) ?_
      exact t_b_X4_account_27 O Z h x0 x1 x2 x0 (2 : Int32) hf
    · refine E_iconst (pc := 22) O (0 : Int32) dX4_account_22 (by decide) ?_
      refine E_goto (pc := 23) O 27 dX4_account_23 (by decide) ?_
      exact t_b_X4_account_27 O Z h x0 x1 x2 x0 (0 : Int32) hf
  · refine E_iconst (pc := 9) O (1 : Int32) dX4_account_9 (by decide) ?_
    refine E_goto (pc := 10) O 27 dX4_account_10 (by decide) ?_
    exact t_b_X4_account_27 O Z h x0 x1 x2 x0 (1 : Int32) hf
set_option maxHeartbeats 4000000 in
set_option maxRecDepth 100000 in
theorem t_b_X4_entryNow_35 {K : Cx} {fr : Bool} {out : Int32} {h : MH} (O : Ok K yX4_entryNow.cls cX4_entryNow 3 (rmm 0 0 0 0)) (Z : Out K (some .int) fr (some (.int out)) h) (s0 : Int32) (hf : b_X4_entryNow_35 h s0 = some out) : EE K (fr, 0, 0) 35 [none, none, none] [.int s0] h := by
  unfold b_X4_entryNow_35 at hf
  exact E_iretP (pc := 35) O Z hf ⟨(Nat.le_of_ble_eq_true rfl), (Nat.le_of_ble_eq_true rfl)⟩ dX4_entryNow_35
set_option maxHeartbeats 4000000 in
set_option maxRecDepth 100000 in
theorem t_X4_entryNow {g : Gx} {fr : Bool} {h : MH} {x0 x1 x2} {out : Int32} (hf : f_X4_entryNow h x0 x1 x2 = some out) : MM g yX4_entryNow cX4_entryNow 3 (some .int) 0 0 0 0 fr fr [.ref x0, .int x1, .int x2] h (some (.int out)) h := by
  unfold f_X4_entryNow at hf
  refine MM_of (L := [some (.ref x0), some (.int x1), some (.int x2)]) (by decide) (Nat.le_of_ble_eq_true rfl) rfl (fun K hK O Z hn => ?_)
  refine E_iload_n (pc := 0) O 1 dX4_entryNow_0 rfl rfl ?_
  refine E_aload_n (pc := 1) O 0 dX4_entryNow_1 rfl rfl ?_
  refine E_getR (pc := 2) O FL_RailSequenceModel_7 dX4_entryNow_2 hf (fun v1 hf => ?_)
  refine E_iconst (pc := 5) O (3 : Int32) dX4_entryNow_5 (by decide) ?_
  refine E_iaload (pc := 6) O dX4_entryNow_6 hf (fun v2 hf => ?_)
  refine E_icmp_ge (pc := 7) O 34 dX4_entryNow_7 (by decide) hf (fun hf => ?_) (fun hf => ?_)
  · refine E_iconst (pc := 34) O (-1 : Int32) dX4_entryNow_34 (by decide) ?_
    exact E_sub (L' := [none, none, none]) True.intro (t_b_X4_entryNow_35 O Z (-1 : Int32) hf)
  · refine E_aload_n (pc := 10) O 0 dX4_entryNow_10 rfl rfl ?_
    refine E_getR (pc := 11) O FL_RailSequenceModel_7 dX4_entryNow_11 hf (fun v3 hf => ?_)
    refine E_iconst (pc := 14) O (4 : Int32) dX4_entryNow_14 (by decide) ?_
    refine E_iconst (pc := 15) O (4 : Int32) dX4_entryNow_15 (by decide) ?_
    refine E_aload_n (pc := 16) O 0 dX4_entryNow_16 rfl rfl ?_
    refine E_getR (pc := 17) O FL_RailSequenceModel_7 dX4_entryNow_17 hf (fun v4 hf => ?_)
    refine E_iconst (pc := 20) O (3 : Int32) dX4_entryNow_20 (by decide) ?_
    refine E_iaload (pc := 21) O dX4_entryNow_21 hf (fun v5 hf => ?_)
    refine E_iconst (pc := 22) O (1 : Int32) dX4_entryNow_22 (by decide) ?_
    refine E_isub (pc := 23) O dX4_entryNow_23 ?_
    refine E_iload_n (pc := 24) O 1 dX4_entryNow_24 rfl rfl ?_
    refine E_isub (pc := 25) O dX4_entryNow_25 ?_
    refine E_imul (pc := 26) O dX4_entryNow_26 ?_
    refine E_iadd (pc := 27) O dX4_entryNow_27 ?_
    refine E_iload_n (pc := 28) O 2 dX4_entryNow_28 rfl rfl ?_
    refine E_iadd (pc := 29) O dX4_entryNow_29 ?_
    refine E_iaload (pc := 30) O dX4_entryNow_30 hf (fun v6 hf => ?_)
    refine E_goto (pc := 31) O 35 dX4_entryNow_31 (by decide) ?_
    exact E_sub (L' := [none, none, none]) True.intro (t_b_X4_entryNow_35 O Z v6 hf)
