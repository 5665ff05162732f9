/-! walks: the machine does what the plain functions say: written by program -/
set_option maxHeartbeats 4000000 in
set_option maxRecDepth 100000 in
theorem t_b_L_tick_161 {K : Cx} {fr : Bool} {out : MH} (O : Ok K yL_tick.cls cL_tick 12 (rmm 2 52 0 0)) (Z : Out K none fr none out) (rec6 : MH → Nat → Nat → Nat → Nat → Nat → Int32 → Int32 → Option MH) (hr6 : ∀ (h : MH) (x0 : Nat) (x1 : Nat) (x2 : Nat) (x3 : Nat) (x4 : Nat) (x5 : Int32) (x6 : Int32), rec6 h x0 x1 x2 x3 x4 x5 x6 = some out → EE K (fr, 0, 0) 6 [some (.ref x0), some (.ref x1), some (.ref x2), some (.ref x3), some (.ref x4), some (.int x5), some (.int x6), none, none, none, none, none] [] h) (h : MH) (x0 : Nat) (x1 : Nat) (x2 : Nat) (x3 : Nat) (x4 : Nat) (x5 : Int32) (x6 : Int32) (x7 : Int32) (s0 : Nat) (s1 : Int32) (s2 : Int32) (hf : b_L_tick_161 rec6 h x0 x1 x2 x3 x4 x5 x6 x7 s0 s1 s2 = some out) : EE K (fr, 0, 0) 161 [some (.ref x0), some (.ref x1), some (.ref x2), some (.ref x3), some (.ref x4), some (.int x5), some (.int x6), some (.int x7), none, none, none, none] [.int s2, .int s1, .ref s0] h := by
  unfold b_L_tick_161 at hf
  refine E_iastore (pc := 161) O dL_tick_161 hf (fun h1 hf => ?_)
  refine E_iload (pc := 162) O dL_tick_162 rfl ?_
  refine E_aload_n (pc := 164) O 1 dL_tick_164 rfl rfl ?_
  refine E_iload (pc := 165) O dL_tick_165 rfl ?_
  refine E_iconst (pc := 167) O (2 : Int32) dL_tick_167 (by decide) ?_
  refine E_iadd (pc := 168) O dL_tick_168 ?_
  refine E_iaload (pc := 169) O dL_tick_169 hf (fun v2 hf => ?_)
  refine E_iconst (pc := 170) O (3 : Int32) dL_tick_170 (by decide) ?_
  refine E_iload (pc := 171) O dL_tick_171 rfl ?_
  refine E_imul (pc := 173) O dL_tick_173 ?_
  refine E_ishl (pc := 174) O dL_tick_174 ?_
  refine E_ior (pc := 175) O dL_tick_175 ?_
  obtain ⟨v3, ev3, hf⟩ := ob hf
  have ev3 := os ev3
  rw [ev3]
  refine E_istore (pc := 176) O [some (.ref x0), some (.ref x1), some (.ref x2), some (.ref x3), some (.ref x4), some (.int v3), some (.int x6), some (.int x7), none, none, none, none] dL_tick_176 (by decide) rfl rfl ?_
  refine E_iinc (pc := 178) O (1 : Int32) [some (.ref x0), some (.ref x1), some (.ref x2), some (.ref x3), some (.ref x4), some (.int v3), some (.int (x6 + (1 : Int32))), some (.int x7), none, none, none, none] dL_tick_178 rfl (by decide) rfl (by decide) rfl ?_
  refine E_goto (pc := 181) O 6 dL_tick_181 (by decide) ?_
  exact E_sub (L' := [some (.ref x0), some (.ref x1), some (.ref x2), some (.ref x3), some (.ref x4), some (.int v3), some (.int (x6 + (1 : Int32))), none, none, none, none, none]) (And.intro rfl (And.intro rfl (And.intro rfl (And.intro rfl (And.intro rfl (And.intro rfl (And.intro rfl True.intro))))))) (hr6 h1 x0 x1 x2 x3 x4 v3 (x6 + (1 : Int32)) hf)
set_option maxHeartbeats 4000000 in
set_option maxRecDepth 100000 in
theorem t_b_L_tick_102 {K : Cx} {fr : Bool} {out : MH} (O : Ok K yL_tick.cls cL_tick 12 (rmm 2 52 0 0)) (Z : Out K none fr none out) (rec6 : MH → Nat → Nat → Nat → Nat → Nat → Int32 → Int32 → Option MH) (hr6 : ∀ (h : MH) (x0 : Nat) (x1 : Nat) (x2 : Nat) (x3 : Nat) (x4 : Nat) (x5 : Int32) (x6 : Int32), rec6 h x0 x1 x2 x3 x4 x5 x6 = some out → EE K (fr, 0, 0) 6 [some (.ref x0), some (.ref x1), some (.ref x2), some (.ref x3), some (.ref x4), some (.int x5), some (.int x6), none, none, none, none, none] [] h) (h : MH) (x0 : Nat) (x1 : Nat) (x2 : Nat) (x3 : Nat) (x4 : Nat) (x5 : Int32) (x6 : Int32) (x7 : Int32) (x9 : Int32) (s0 : Int32) (hf : b_L_tick_102 rec6 h x0 x1 x2 x3 x4 x5 x6 x7 x9 s0 = some out) : EE K (fr, 0, 0) 102 [some (.ref x0), some (.ref x1), some (.ref x2), some (.ref x3), some (.ref x4), some (.int x5), some (.int x6), some (.int x7), none, some (.int x9), none, none] [.int s0] h := by
  unfold b_L_tick_102 at hf
  refine E_istore (pc := 102) O [some (.ref x0), some (.ref x1), some (.ref x2), some (.ref x3), some (.ref x4), some (.int x5), some (.int x6), some (.int x7), none, some (.int x9), some (.int s0), none] dL_tick_102 (by decide) rfl rfl ?_
  refine E_iload (pc := 104) O dL_tick_104 rfl ?_
  refine E_aload_n (pc := 106) O 1 dL_tick_106 rfl rfl ?_
  refine E_iload (pc := 107) O dL_tick_107 rfl ?_
  refine E_iconst (pc := 109) O (3 : Int32) dL_tick_109 (by decide) ?_
  refine E_iadd (pc := 110) O dL_tick_110 ?_
  refine E_iaload (pc := 111) O dL_tick_111 hf (fun v4 hf => ?_)
  refine E_isub (pc := 112) O dL_tick_112 ?_
  obtain ⟨v5, ev5, hf⟩ := ob hf
  have ev5 := os ev5
  rw [ev5]
  refine E_istore (pc := 113) O [some (.ref x0), some (.ref x1), some (.ref x2), some (.ref x3), some (.ref x4), some (.int x5), some (.int x6), some (.int x7), none, some (.int x9), some (.int s0), some (.int v5)] dL_tick_113 (by decide) rfl rfl ?_
  refine E_aload_n (pc := 115) O 1 dL_tick_115 rfl rfl ?_
  refine E_iload (pc := 116) O dL_tick_116 rfl ?_
  refine E_iconst (pc := 118) O (3 : Int32) dL_tick_118 (by decide) ?_
  refine E_iadd (pc := 119) O dL_tick_119 ?_
  refine E_iload (pc := 120) O dL_tick_120 rfl ?_
  refine E_iload (pc := 122) O dL_tick_122 rfl ?_
  refine E_icmp_le (pc := 124) O 139 dL_tick_124 (by decide) hf (fun hf => ?_) (fun hf => ?_)
  · refine E_iload (pc := 139) O dL_tick_139 rfl ?_
    refine E_iload (pc := 141) O dL_tick_141 rfl ?_
    refine E_ineg (pc := 143) O dL_tick_143 ?_
    refine E_icmp_ge (pc := 144) O 159 dL_tick_144 (by decide) hf (fun hf => ?_) (fun hf => ?_)
    · refine E_iload (pc := 159) O dL_tick_159 rfl ?_
      exact E_sub (L' := [some (.ref x0), some (.ref x1), some (.ref x2), some (.ref x3), some (.ref x4), some (.int x5), some (.int x6), some (.int x7), none, none, none, none]) (And.intro rfl (And.intro rfl (And.intro rfl (And.intro rfl (And.intro rfl (And.intro rfl (And.intro rfl (And.intro rfl True.intro)))))))) (t_b_L_tick_161 O Z _ hr6 h x0 x1 x2 x3 x4 x5 x6 x7 x1 (x7 + (3 : Int32)) x9 hf)
    · refine E_aload_n (pc := 147) O 1 dL_tick_147 rfl rfl ?_
      refine E_iload (pc := 148) O dL_tick_148 rfl ?_
      refine E_iconst (pc := 150) O (3 : Int32) dL_tick_150 (by decide) ?_
      refine E_iadd (pc := 151) O dL_tick_151 ?_
      refine E_iaload (pc := 152) O dL_tick_152 hf (fun v6 hf => ?_)
      refine E_iload (pc := 153) O dL_tick_153 rfl ?_
      refine E_isub (pc := 155) O dL_tick_155 ?_
      refine E_goto (pc := 156) O 161 dL_tick_156 (by decide) ?_
      exact E_sub (L' := [some (.ref x0), some (.ref x1), some (.ref x2), some (.ref x3), some (.ref x4), some (.int x5), some (.int x6), some (.int x7), none, none, none, none]) (And.intro rfl (And.intro rfl (And.intro rfl (And.intro rfl (And.intro rfl (And.intro rfl (And.intro rfl (And.intro rfl True.intro)))))))) (t_b_L_tick_161 O Z _ hr6 h x0 x1 x2 x3 x4 x5 x6 x7 x1 (x7 + (3 : Int32)) (v6 - s0) hf)
  · refine E_aload_n (pc := 127) O 1 dL_tick_127 rfl rfl ?_
    refine E_iload (pc := 128) O dL_tick_128 rfl ?_
    refine E_iconst (pc := 130) O (3 : Int32) dL_tick_130 (by decide) ?_
    refine E_iadd (pc := 131) O dL_tick_131 ?_
    refine E_iaload (pc := 132) O dL_tick_132 hf (fun v7 hf => ?_)
    refine E_iload (pc := 133) O dL_tick_133 rfl ?_
    refine E_iadd (pc := 135) O dL_tick_135 ?_
    refine E_goto (pc := 136) O 161 dL_tick_136 (by decide) ?_
    exact E_sub (L' := [some (.ref x0), some (.ref x1), some (.ref x2), some (.ref x3), some (.ref x4), some (.int x5), some (.int x6), some (.int x7), none, none, none, none]) (And.intro rfl (And.intro rfl (And.intro rfl (And.intro rfl (And.intro rfl (And.intro rfl (And.intro rfl (And.intro rfl True.intro)))))))) (t_b_L_tick_161 O Z _ hr6 h x0 x1 x2 x3 x4 x5 x6 x7 x1 (x7 + (3 : Int32)) (v7 + s0) hf)
set_option maxHeartbeats 4000000 in
set_option maxRecDepth 100000 in
theorem t_b_L_tick_74 {K : Cx} {fr : Bool} {out : MH} (O : Ok K yL_tick.cls cL_tick 12 (rmm 2 52 0 0)) (Z : Out K none fr none out) (rec6 : MH → Nat → Nat → Nat → Nat → Nat → Int32 → Int32 → Option MH) (hr6 : ∀ (h : MH) (x0 : Nat) (x1 : Nat) (x2 : Nat) (x3 : Nat) (x4 : Nat) (x5 : Int32) (x6 : Int32), rec6 h x0 x1 x2 x3 x4 x5 x6 = some out → EE K (fr, 0, 0) 6 [some (.ref x0), some (.ref x1), some (.ref x2), some (.ref x3), some (.ref x4), some (.int x5), some (.int x6), none, none, none, none, none] [] h) (h : MH) (x0 : Nat) (x1 : Nat) (x2 : Nat) (x3 : Nat) (x4 : Nat) (x5 : Int32) (x6 : Int32) (x7 : Int32) (x8 : Int32) (s0 : Int32) (hf : b_L_tick_74 rec6 h x0 x1 x2 x3 x4 x5 x6 x7 x8 s0 = some out) : EE K (fr, 0, 0) 74 [some (.ref x0), some (.ref x1), some (.ref x2), some (.ref x3), some (.ref x4), some (.int x5), some (.int x6), some (.int x7), some (.int x8), none, none, none] [.int s0] h := by
  unfold b_L_tick_74 at hf
  refine E_istore (pc := 74) O [some (.ref x0), some (.ref x1), some (.ref x2), some (.ref x3), some (.ref x4), some (.int x5), some (.int x6), some (.int x7), some (.int x8), some (.int s0), none, none] dL_tick_74 (by decide) rfl rfl ?_
  refine E_iload (pc := 76) O dL_tick_76 rfl ?_
  refine E_if_eq (pc := 78) O 93 dL_tick_78 (by decide) hf (fun hf => ?_) (fun hf => ?_)
  · refine E_aload_n (pc := 93) O 0 dL_tick_93 rfl rfl ?_
    refine E_bipush (pc := 94) O (7 : Int32) dL_tick_94 (by decide) ?_
    refine E_iload (pc := 96) O dL_tick_96 rfl ?_
    refine E_imul (pc := 98) O dL_tick_98 ?_
    refine E_iconst (pc := 99) O (2 : Int32) dL_tick_99 (by decide) ?_
    refine E_iadd (pc := 100) O dL_tick_100 ?_
    refine E_iaload (pc := 101) O dL_tick_101 hf (fun v8 hf => ?_)
    exact E_sub (L' := [some (.ref x0), some (.ref x1), some (.ref x2), some (.ref x3), some (.ref x4), some (.int x5), some (.int x6), some (.int x7), none, some (.int s0), none, none]) (And.intro rfl (And.intro rfl (And.intro rfl (And.intro rfl (And.intro rfl (And.intro rfl (And.intro rfl (And.intro rfl (And.intro rfl True.intro))))))))) (t_b_L_tick_102 O Z _ hr6 h x0 x1 x2 x3 x4 x5 x6 x7 s0 v8 hf)
  · refine E_aload_n (pc := 81) O 0 dL_tick_81 rfl rfl ?_
    refine E_bipush (pc := 82) O (7 : Int32) dL_tick_82 (by decide) ?_
    refine E_iload (pc := 84) O dL_tick_84 rfl ?_
    refine E_imul (pc := 86) O dL_tick_86 ?_
    refine E_iconst (pc := 87) O (1 : Int32) dL_tick_87 (by decide) ?_
    refine E_iadd (pc := 88) O dL_tick_88 ?_
    refine E_iaload (pc := 89) O dL_tick_89 hf (fun v9 hf => ?_)
    refine E_goto (pc := 90) O 102 dL_tick_90 (by decide) ?_
    exact E_sub (L' := [some (.ref x0), some (.ref x1), some (.ref x2), some (.ref x3), some (.ref x4), some (.int x5), some (.int x6), some (.int x7), none, some (.int s0), none, none]) (And.intro rfl (And.intro rfl (And.intro rfl (And.intro rfl (And.intro rfl (And.intro rfl (And.intro rfl (And.intro rfl (And.intro rfl True.intro))))))))) (t_b_L_tick_102 O Z _ hr6 h x0 x1 x2 x3 x4 x5 x6 x7 s0 v9 hf)
set_option maxHeartbeats 4000000 in
set_option maxRecDepth 100000 in
theorem t_b_L_tick_56 {K : Cx} {fr : Bool} {out : MH} (O : Ok K yL_tick.cls cL_tick 12 (rmm 2 52 0 0)) (Z : Out K none fr none out) (rec6 : MH → Nat → Nat → Nat → Nat → Nat → Int32 → Int32 → Option MH) (hr6 : ∀ (h : MH) (x0 : Nat) (x1 : Nat) (x2 : Nat) (x3 : Nat) (x4 : Nat) (x5 : Int32) (x6 : Int32), rec6 h x0 x1 x2 x3 x4 x5 x6 = some out → EE K (fr, 0, 0) 6 [some (.ref x0), some (.ref x1), some (.ref x2), some (.ref x3), some (.ref x4), some (.int x5), some (.int x6), none, none, none, none, none] [] h) (h : MH) (x0 : Nat) (x1 : Nat) (x2 : Nat) (x3 : Nat) (x4 : Nat) (x5 : Int32) (x6 : Int32) (x7 : Int32) (s0 : Int32) (hf : b_L_tick_56 rec6 h x0 x1 x2 x3 x4 x5 x6 x7 s0 = some out) : EE K (fr, 0, 0) 56 [some (.ref x0), some (.ref x1), some (.ref x2), some (.ref x3), some (.ref x4), some (.int x5), some (.int x6), some (.int x7), none, none, none, none] [.int s0] h := by
  unfold b_L_tick_56 at hf
  refine E_istore (pc := 56) O [some (.ref x0), some (.ref x1), some (.ref x2), some (.ref x3), some (.ref x4), some (.int x5), some (.int x6), some (.int x7), some (.int s0), none, none, none] dL_tick_56 (by decide) rfl rfl ?_
  refine E_iload (pc := 58) O dL_tick_58 rfl ?_
  refine E_if_eq (pc := 60) O 73 dL_tick_60 (by decide) hf (fun hf => ?_) (fun hf => ?_)
  · refine E_iconst (pc := 73) O (0 : Int32) dL_tick_73 (by decide) ?_
    exact t_b_L_tick_74 O Z _ hr6 h x0 x1 x2 x3 x4 x5 x6 x7 s0 (0 : Int32) hf
  · refine E_aload_n (pc := 63) O 0 dL_tick_63 rfl rfl ?_
    refine E_bipush (pc := 64) O (7 : Int32) dL_tick_64 (by decide) ?_
    refine E_iload (pc := 66) O dL_tick_66 rfl ?_
    refine E_imul (pc := 68) O dL_tick_68 ?_
    refine E_iaload (pc := 69) O dL_tick_69 hf (fun v10 hf => ?_)
    refine E_goto (pc := 70) O 74 dL_tick_70 (by decide) ?_
    exact t_b_L_tick_74 O Z _ hr6 h x0 x1 x2 x3 x4 x5 x6 x7 s0 v10 hf
set_option maxHeartbeats 4000000 in
set_option maxRecDepth 100000 in
theorem t_b_L_tick_55 {K : Cx} {fr : Bool} {out : MH} (O : Ok K yL_tick.cls cL_tick 12 (rmm 2 52 0 0)) (Z : Out K none fr none out) (rec6 : MH → Nat → Nat → Nat → Nat → Nat → Int32 → Int32 → Option MH) (hr6 : ∀ (h : MH) (x0 : Nat) (x1 : Nat) (x2 : Nat) (x3 : Nat) (x4 : Nat) (x5 : Int32) (x6 : Int32), rec6 h x0 x1 x2 x3 x4 x5 x6 = some out → EE K (fr, 0, 0) 6 [some (.ref x0), some (.ref x1), some (.ref x2), some (.ref x3), some (.ref x4), some (.int x5), some (.int x6), none, none, none, none, none] [] h) (h : MH) (x0 : Nat) (x1 : Nat) (x2 : Nat) (x3 : Nat) (x4 : Nat) (x5 : Int32) (x6 : Int32) (x7 : Int32) (hf : b_L_tick_55 rec6 h x0 x1 x2 x3 x4 x5 x6 x7 = some out) : EE K (fr, 0, 0) 55 [some (.ref x0), some (.ref x1), some (.ref x2), some (.ref x3), some (.ref x4), some (.int x5), some (.int x6), some (.int x7), none, none, none, none] [] h := by
  unfold b_L_tick_55 at hf
  refine E_iconst (pc := 55) O (0 : Int32) dL_tick_55 (by decide) ?_
  exact t_b_L_tick_56 O Z _ hr6 h x0 x1 x2 x3 x4 x5 x6 x7 (0 : Int32) hf
set_option maxHeartbeats 4000000 in
set_option maxRecDepth 100000 in
theorem t_b_L_tick_42 {K : Cx} {fr : Bool} {out : MH} (O : Ok K yL_tick.cls cL_tick 12 (rmm 2 52 0 0)) (Z : Out K none fr none out) (rec6 : MH → Nat → Nat → Nat → Nat → Nat → Int32 → Int32 → Option MH) (hr6 : ∀ (h : MH) (x0 : Nat) (x1 : Nat) (x2 : Nat) (x3 : Nat) (x4 : Nat) (x5 : Int32) (x6 : Int32), rec6 h x0 x1 x2 x3 x4 x5 x6 = some out → EE K (fr, 0, 0) 6 [some (.ref x0), some (.ref x1), some (.ref x2), some (.ref x3), some (.ref x4), some (.int x5), some (.int x6), none, none, none, none, none] [] h) (h : MH) (x0 : Nat) (x1 : Nat) (x2 : Nat) (x3 : Nat) (x4 : Nat) (x5 : Int32) (x6 : Int32) (x7 : Int32) (hf : b_L_tick_42 rec6 h x0 x1 x2 x3 x4 x5 x6 x7 = some out) : EE K (fr, 0, 0) 42 [some (.ref x0), some (.ref x1), some (.ref x2), some (.ref x3), some (.ref x4), some (.int x5), some (.int x6), some (.int x7), none, none, none, none] [] h := by
  unfold b_L_tick_42 at hf
  refine E_aload_n (pc := 42) O 1 dL_tick_42 rfl rfl ?_
  refine E_iload (pc := 43) O dL_tick_43 rfl ?_
  refine E_iconst (pc := 45) O (5 : Int32) dL_tick_45 (by decide) ?_
  refine E_iadd (pc := 46) O dL_tick_46 ?_
  refine E_iaload (pc := 47) O dL_tick_47 hf (fun v11 hf => ?_)
  refine E_if_ne (pc := 48) O 55 dL_tick_48 (by decide) hf (fun hf => ?_) (fun hf => ?_)
  · exact t_b_L_tick_55 O Z _ hr6 h x0 x1 x2 x3 x4 x5 x6 x7 hf
  · refine E_iconst (pc := 51) O (1 : Int32) dL_tick_51 (by decide) ?_
    refine E_goto (pc := 52) O 56 dL_tick_52 (by decide) ?_
    exact t_b_L_tick_56 O Z _ hr6 h x0 x1 x2 x3 x4 x5 x6 x7 (1 : Int32) hf
set_option maxHeartbeats 4000000 in
set_option maxRecDepth 100000 in
theorem t_b_L_tick_531 {K : Cx} {fr : Bool} {out : MH} (O : Ok K yL_tick.cls cL_tick 12 (rmm 2 52 0 0)) (Z : Out K none fr none out) (rec187 : MH → Nat → Nat → Nat → Nat → Nat → Int32 → Int32 → Option MH) (hr187 : ∀ (h : MH) (x0 : Nat) (x1 : Nat) (x2 : Nat) (x3 : Nat) (x4 : Nat) (x5 : Int32) (x6 : Int32), rec187 h x0 x1 x2 x3 x4 x5 x6 = some out → EE K (fr, 0, 0) 187 [some (.ref x0), some (.ref x1), some (.ref x2), some (.ref x3), some (.ref x4), some (.int x5), some (.int x6), none, none, none, none, none] [] h) (h : MH) (x0 : Nat) (x1 : Nat) (x2 : Nat) (x3 : Nat) (x4 : Nat) (x5 : Int32) (x6 : Int32) (hf : b_L_tick_531 rec187 h x0 x1 x2 x3 x4 x5 x6 = some out) : EE K (fr, 0, 0) 531 [some (.ref x0), some (.ref x1), some (.ref x2), some (.ref x3), some (.ref x4), some (.int x5), some (.int x6), none, none, none, none, none] [] h := by
  unfold b_L_tick_531 at hf
  refine E_iinc (pc := 531) O (1 : Int32) [some (.ref x0), some (.ref x1), some (.ref x2), some (.ref x3), some (.ref x4), some (.int x5), some (.int (x6 + (1 : Int32))), none, none, none, none, none] dL_tick_531 rfl (by decide) rfl (by decide) rfl ?_
  refine E_goto (pc := 534) O 187 dL_tick_534 (by decide) ?_
  exact hr187 h x0 x1 x2 x3 x4 x5 (x6 + (1 : Int32)) hf
set_option maxHeartbeats 4000000 in
set_option maxRecDepth 100000 in
theorem t_b_L_tick_523 {K : Cx} {fr : Bool} {out : MH} (O : Ok K yL_tick.cls cL_tick 12 (rmm 2 52 0 0)) (Z : Out K none fr none out) (rec187 : MH → Nat → Nat → Nat → Nat → Nat → Int32 → Int32 → Option MH) (hr187 : ∀ (h : MH) (x0 : Nat) (x1 : Nat) (x2 : Nat) (x3 : Nat) (x4 : Nat) (x5 : Int32) (x6 : Int32), rec187 h x0 x1 x2 x3 x4 x5 x6 = some out → EE K (fr, 0, 0) 187 [some (.ref x0), some (.ref x1), some (.ref x2), some (.ref x3), some (.ref x4), some (.int x5), some (.int x6), none, none, none, none, none] [] h) (h : MH) (x0 : Nat) (x1 : Nat) (x2 : Nat) (x3 : Nat) (x4 : Nat) (x5 : Int32) (x6 : Int32) (s0 : Int32) (s1 : Int32) (hf : b_L_tick_523 rec187 h x0 x1 x2 x3 x4 x5 x6 s0 s1 = some out) : EE K (fr, 0, 0) 523 [some (.ref x0), some (.ref x1), some (.ref x2), some (.ref x3), some (.ref x4), some (.int x5), some (.int x6), none, none, none, none, none] [.int s1, .int s0] h := by
  unfold b_L_tick_523 at hf
  refine E_aload_n (pc := 523) O 1 dL_tick_523 rfl rfl ?_
  refine E_aload_n (pc := 524) O 2 dL_tick_524 rfl rfl ?_
  refine E_aload_n (pc := 525) O 3 dL_tick_525 rfl rfl ?_
  refine E_aload (pc := 526) O dL_tick_526 rfl ?_
  refine E_callS_v (pc := 528) (S := []) O [.int s0, .int s1, .ref x1, .ref x2, .ref x3, .ref x4] CS_RailSequenceLaw_18 (fun r e => t_L_enter e) dL_tick_528 hf rfl ⟨(Nat.le_of_ble_eq_true rfl), (Nat.le_of_ble_eq_true rfl)⟩ ⟨(Nat.le_of_ble_eq_true rfl), (Nat.le_of_ble_eq_true rfl)⟩ (Nat.le_of_ble_eq_true rfl) (fun h12 hf => ?_)
  exact t_b_L_tick_531 O Z _ hr187 h12 x0 x1 x2 x3 x4 x5 x6 hf
set_option maxHeartbeats 4000000 in
set_option maxRecDepth 100000 in
theorem t_b_L_tick_483 {K : Cx} {fr : Bool} {out : MH} (O : Ok K yL_tick.cls cL_tick 12 (rmm 2 52 0 0)) (Z : Out K none fr none out) (rec187 : MH → Nat → Nat → Nat → Nat → Nat → Int32 → Int32 → Option MH) (hr187 : ∀ (h : MH) (x0 : Nat) (x1 : Nat) (x2 : Nat) (x3 : Nat) (x4 : Nat) (x5 : Int32) (x6 : Int32), rec187 h x0 x1 x2 x3 x4 x5 x6 = some out → EE K (fr, 0, 0) 187 [some (.ref x0), some (.ref x1), some (.ref x2), some (.ref x3), some (.ref x4), some (.int x5), some (.int x6), none, none, none, none, none] [] h) (h : MH) (x0 : Nat) (x1 : Nat) (x2 : Nat) (x3 : Nat) (x4 : Nat) (x5 : Int32) (x6 : Int32) (x7 : Int32) (x9 : Int32) (x10 : Int32) (hf : b_L_tick_483 rec187 h x0 x1 x2 x3 x4 x5 x6 x7 x9 x10 = some out) : EE K (fr, 0, 0) 483 [some (.ref x0), some (.ref x1), some (.ref x2), some (.ref x3), some (.ref x4), some (.int x5), some (.int x6), some (.int x7), none, some (.int x9), some (.int x10), none] [] h := by
  unfold b_L_tick_483 at hf
  refine E_iload (pc := 483) O dL_tick_483 rfl ?_
  refine E_iload (pc := 485) O dL_tick_485 rfl ?_
  refine E_if_eq (pc := 487) O 518 dL_tick_487 (by decide) hf (fun hf => ?_) (fun hf => ?_)
  · refine E_iload (pc := 518) O dL_tick_518 rfl ?_
    refine E_bipush (pc := 520) O (20 : Int32) dL_tick_520 (by decide) ?_
    refine E_irem (pc := 522) O dL_tick_522 hf (fun v13 hf => ?_)
    exact E_sub (L' := [some (.ref x0), some (.ref x1), some (.ref x2), some (.ref x3), some (.ref x4), some (.int x5), some (.int x6), none, none, none, none, none]) (And.intro rfl (And.intro rfl (And.intro rfl (And.intro rfl (And.intro rfl (And.intro rfl (And.intro rfl True.intro))))))) (t_b_L_tick_523 O Z _ hr187 h x0 x1 x2 x3 x4 x5 x6 x6 v13 hf)
  · refine E_aload_n (pc := 490) O 1 dL_tick_490 rfl rfl ?_
    refine E_iload (pc := 491) O dL_tick_491 rfl ?_
    refine E_bipush (pc := 493) O (7 : Int32) dL_tick_493 (by decide) ?_
    refine E_iadd (pc := 495) O dL_tick_495 ?_
    refine E_iaload (pc := 496) O dL_tick_496 hf (fun v14 hf => ?_)
    refine E_aload_n (pc := 497) O 0 dL_tick_497 rfl rfl ?_
    refine E_bipush (pc := 498) O (7 : Int32) dL_tick_498 (by decide) ?_
    refine E_iload (pc := 500) O dL_tick_500 rfl ?_
    refine E_imul (pc := 502) O dL_tick_502 ?_
    refine E_bipush (pc := 503) O (6 : Int32) dL_tick_503 (by decide) ?_
    refine E_iadd (pc := 505) O dL_tick_505 ?_
    refine E_iaload (pc := 506) O dL_tick_506 hf (fun v15 hf => ?_)
    refine E_icmp_lt (pc := 507) O 514 dL_tick_507 (by decide) hf (fun hf => ?_) (fun hf => ?_)
    · refine E_iconst (pc := 514) O (4 : Int32) dL_tick_514 (by decide) ?_
      refine E_goto (pc := 515) O 523 dL_tick_515 (by decide) ?_
      exact E_sub (L' := [some (.ref x0), some (.ref x1), some (.ref x2), some (.ref x3), some (.ref x4), some (.int x5), some (.int x6), none, none, none, none, none]) (And.intro rfl (And.intro rfl (And.intro rfl (And.intro rfl (And.intro rfl (And.intro rfl (And.intro rfl True.intro))))))) (t_b_L_tick_523 O Z _ hr187 h x0 x1 x2 x3 x4 x5 x6 x6 (4 : Int32) hf)
    · refine E_iconst (pc := 510) O (5 : Int32) dL_tick_510 (by decide) ?_
      refine E_goto (pc := 511) O 523 dL_tick_511 (by decide) ?_
      exact E_sub (L' := [some (.ref x0), some (.ref x1), some (.ref x2), some (.ref x3), some (.ref x4), some (.int x5), some (.int x6), none, none, none, none, none]) (And.intro rfl (And.intro rfl (And.intro rfl (And.intro rfl (And.intro rfl (And.intro rfl (And.intro rfl True.intro))))))) (t_b_L_tick_523 O Z _ hr187 h x0 x1 x2 x3 x4 x5 x6 x6 (5 : Int32) hf)
set_option maxHeartbeats 4000000 in
set_option maxRecDepth 100000 in
theorem t_b_L_tick_455 {K : Cx} {fr : Bool} {out : MH} (O : Ok K yL_tick.cls cL_tick 12 (rmm 2 52 0 0)) (Z : Out K none fr none out) (rec187 : MH → Nat → Nat → Nat → Nat → Nat → Int32 → Int32 → Option MH) (hr187 : ∀ (h : MH) (x0 : Nat) (x1 : Nat) (x2 : Nat) (x3 : Nat) (x4 : Nat) (x5 : Int32) (x6 : Int32), rec187 h x0 x1 x2 x3 x4 x5 x6 = some out → EE K (fr, 0, 0) 187 [some (.ref x0), some (.ref x1), some (.ref x2), some (.ref x3), some (.ref x4), some (.int x5), some (.int x6), none, none, none, none, none] [] h) (h : MH) (x0 : Nat) (x1 : Nat) (x2 : Nat) (x3 : Nat) (x4 : Nat) (x5 : Int32) (x6 : Int32) (x7 : Int32) (x9 : Int32) (x10 : Int32) (hf : b_L_tick_455 rec187 h x0 x1 x2 x3 x4 x5 x6 x7 x9 x10 = some out) : EE K (fr, 0, 0) 455 [some (.ref x0), some (.ref x1), some (.ref x2), some (.ref x3), some (.ref x4), some (.int x5), some (.int x6), some (.int x7), none, some (.int x9), some (.int x10), none] [] h := by
  unfold b_L_tick_455 at hf
  refine E_iload (pc := 455) O dL_tick_455 rfl ?_
  refine E_if_eq (pc := 457) O 483 dL_tick_457 (by decide) hf (fun hf => ?_) (fun hf => ?_)
  · exact t_b_L_tick_483 O Z _ hr187 h x0 x1 x2 x3 x4 x5 x6 x7 x9 x10 hf
  · refine E_aload_n (pc := 460) O 1 dL_tick_460 rfl rfl ?_
    refine E_iload (pc := 461) O dL_tick_461 rfl ?_
    refine E_bipush (pc := 463) O (7 : Int32) dL_tick_463 (by decide) ?_
    refine E_iadd (pc := 465) O dL_tick_465 ?_
    refine E_dup2 (pc := 466) O dL_tick_466 rfl rfl ?_
    refine E_iaload (pc := 467) O dL_tick_467 hf (fun v16 hf => ?_)
    refine E_iconst (pc := 468) O (1 : Int32) dL_tick_468 (by decide) ?_
    refine E_iadd (pc := 469) O dL_tick_469 ?_
    refine E_iastore (pc := 470) O dL_tick_470 hf (fun h17 hf => ?_)
    refine E_aload_n (pc := 471) O 2 dL_tick_471 rfl rfl ?_
    refine E_iconst (pc := 472) O (4 : Int32) dL_tick_472 (by decide) ?_
    refine E_iload (pc := 473) O dL_tick_473 rfl ?_
    refine E_imul (pc := 475) O dL_tick_475 ?_
    refine E_iconst (pc := 476) O (2 : Int32) dL_tick_476 (by decide) ?_
    refine E_iadd (pc := 477) O dL_tick_477 ?_
    refine E_dup2 (pc := 478) O dL_tick_478 rfl rfl ?_
    refine E_iaload (pc := 479) O dL_tick_479 hf (fun v18 hf => ?_)
    refine E_iconst (pc := 480) O (1 : Int32) dL_tick_480 (by decide) ?_
    refine E_iadd (pc := 481) O dL_tick_481 ?_
    refine E_iastore (pc := 482) O dL_tick_482 hf (fun h19 hf => ?_)
    exact t_b_L_tick_483 O Z _ hr187 h19 x0 x1 x2 x3 x4 x5 x6 x7 x9 x10 hf
set_option maxHeartbeats 4000000 in
set_option maxRecDepth 100000 in
theorem t_b_L_tick_434 {K : Cx} {fr : Bool} {out : MH} (O : Ok K yL_tick.cls cL_tick 12 (rmm 2 52 0 0)) (Z : Out K none fr none out) (rec187 : MH → Nat → Nat → Nat → Nat → Nat → Int32 → Int32 → Option MH) (hr187 : ∀ (h : MH) (x0 : Nat) (x1 : Nat) (x2 : Nat) (x3 : Nat) (x4 : Nat) (x5 : Int32) (x6 : Int32), rec187 h x0 x1 x2 x3 x4 x5 x6 = some out → EE K (fr, 0, 0) 187 [some (.ref x0), some (.ref x1), some (.ref x2), some (.ref x3), some (.ref x4), some (.int x5), some (.int x6), none, none, none, none, none] [] h) (h : MH) (x0 : Nat) (x1 : Nat) (x2 : Nat) (x3 : Nat) (x4 : Nat) (x5 : Int32) (x6 : Int32) (x7 : Int32) (x9 : Int32) (x10 : Int32) (hf : b_L_tick_434 rec187 h x0 x1 x2 x3 x4 x5 x6 x7 x9 x10 = some out) : EE K (fr, 0, 0) 434 [some (.ref x0), some (.ref x1), some (.ref x2), some (.ref x3), some (.ref x4), some (.int x5), some (.int x6), some (.int x7), none, some (.int x9), some (.int x10), none] [] h := by
  unfold b_L_tick_434 at hf
  refine E_iload (pc := 434) O dL_tick_434 rfl ?_
  refine E_bipush (pc := 436) O (20 : Int32) dL_tick_436 (by decide) ?_
  refine E_icmp_lt (pc := 438) O 455 dL_tick_438 (by decide) hf (fun hf => ?_) (fun hf => ?_)
  · exact t_b_L_tick_455 O Z _ hr187 h x0 x1 x2 x3 x4 x5 x6 x7 x9 x10 hf
  · refine E_aload_n (pc := 441) O 1 dL_tick_441 rfl rfl ?_
    refine E_iload (pc := 442) O dL_tick_442 rfl ?_
    refine E_bipush (pc := 444) O (8 : Int32) dL_tick_444 (by decide) ?_
    refine E_iadd (pc := 446) O dL_tick_446 ?_
    refine E_iload (pc := 447) O dL_tick_447 rfl ?_
    refine E_bipush (pc := 449) O (20 : Int32) dL_tick_449 (by decide) ?_
    refine E_idiv (pc := 451) O dL_tick_451 hf (fun v20 hf => ?_)
    refine E_iconst (pc := 452) O (2 : Int32) dL_tick_452 (by decide) ?_
    refine E_isub (pc := 453) O dL_tick_453 ?_
    refine E_iastore (pc := 454) O dL_tick_454 hf (fun h21 hf => ?_)
    exact t_b_L_tick_455 O Z _ hr187 h21 x0 x1 x2 x3 x4 x5 x6 x7 x9 x10 hf
set_option maxHeartbeats 4000000 in
set_option maxRecDepth 100000 in
theorem t_b_L_tick_421 {K : Cx} {fr : Bool} {out : MH} (O : Ok K yL_tick.cls cL_tick 12 (rmm 2 52 0 0)) (Z : Out K none fr none out) (rec187 : MH → Nat → Nat → Nat → Nat → Nat → Int32 → Int32 → Option MH) (hr187 : ∀ (h : MH) (x0 : Nat) (x1 : Nat) (x2 : Nat) (x3 : Nat) (x4 : Nat) (x5 : Int32) (x6 : Int32), rec187 h x0 x1 x2 x3 x4 x5 x6 = some out → EE K (fr, 0, 0) 187 [some (.ref x0), some (.ref x1), some (.ref x2), some (.ref x3), some (.ref x4), some (.int x5), some (.int x6), none, none, none, none, none] [] h) (h : MH) (x0 : Nat) (x1 : Nat) (x2 : Nat) (x3 : Nat) (x4 : Nat) (x5 : Int32) (x6 : Int32) (x7 : Int32) (x8 : Int32) (x9 : Int32) (x10 : Int32) (hf : b_L_tick_421 rec187 h x0 x1 x2 x3 x4 x5 x6 x7 x8 x9 x10 = some out) : EE K (fr, 0, 0) 421 [some (.ref x0), some (.ref x1), some (.ref x2), some (.ref x3), some (.ref x4), some (.int x5), some (.int x6), some (.int x7), some (.int x8), some (.int x9), some (.int x10), none] [] h := by
  unfold b_L_tick_421 at hf
  refine E_iload (pc := 421) O dL_tick_421 rfl ?_
  refine E_if_ne (pc := 423) O 434 dL_tick_423 (by decide) hf (fun hf => ?_) (fun hf => ?_)
  · exact E_sub (L' := [some (.ref x0), some (.ref x1), some (.ref x2), some (.ref x3), some (.ref x4), some (.int x5), some (.int x6), some (.int x7), none, some (.int x9), some (.int x10), none]) (And.intro rfl (And.intro rfl (And.intro rfl (And.intro rfl (And.intro rfl (And.intro rfl (And.intro rfl (And.intro rfl (And.intro rfl (And.intro rfl True.intro)))))))))) (t_b_L_tick_434 O Z _ hr187 h x0 x1 x2 x3 x4 x5 x6 x7 x9 x10 hf)
  · refine E_aload_n (pc := 426) O 1 dL_tick_426 rfl rfl ?_
    refine E_iload (pc := 427) O dL_tick_427 rfl ?_
    refine E_bipush (pc := 429) O (7 : Int32) dL_tick_429 (by decide) ?_
    refine E_iadd (pc := 431) O dL_tick_431 ?_
    refine E_iconst (pc := 432) O (0 : Int32) dL_tick_432 (by decide) ?_
    refine E_iastore (pc := 433) O dL_tick_433 hf (fun h22 hf => ?_)
    exact E_sub (L' := [some (.ref x0), some (.ref x1), some (.ref x2), some (.ref x3), some (.ref x4), some (.int x5), some (.int x6), some (.int x7), none, some (.int x9), some (.int x10), none]) (And.intro rfl (And.intro rfl (And.intro rfl (And.intro rfl (And.intro rfl (And.intro rfl (And.intro rfl (And.intro rfl (And.intro rfl (And.intro rfl True.intro)))))))))) (t_b_L_tick_434 O Z _ hr187 h22 x0 x1 x2 x3 x4 x5 x6 x7 x9 x10 hf)
set_option maxHeartbeats 4000000 in
set_option maxRecDepth 100000 in
theorem t_b_L_tick_413 {K : Cx} {fr : Bool} {out : MH} (O : Ok K yL_tick.cls cL_tick 12 (rmm 2 52 0 0)) (Z : Out K none fr none out) (rec187 : MH → Nat → Nat → Nat → Nat → Nat → Int32 → Int32 → Option MH) (hr187 : ∀ (h : MH) (x0 : Nat) (x1 : Nat) (x2 : Nat) (x3 : Nat) (x4 : Nat) (x5 : Int32) (x6 : Int32), rec187 h x0 x1 x2 x3 x4 x5 x6 = some out → EE K (fr, 0, 0) 187 [some (.ref x0), some (.ref x1), some (.ref x2), some (.ref x3), some (.ref x4), some (.int x5), some (.int x6), none, none, none, none, none] [] h) (h : MH) (x0 : Nat) (x1 : Nat) (x2 : Nat) (x3 : Nat) (x4 : Nat) (x5 : Int32) (x6 : Int32) (x7 : Int32) (x8 : Int32) (x9 : Int32) (x10 : Int32) (hf : b_L_tick_413 rec187 h x0 x1 x2 x3 x4 x5 x6 x7 x8 x9 x10 = some out) : EE K (fr, 0, 0) 413 [some (.ref x0), some (.ref x1), some (.ref x2), some (.ref x3), some (.ref x4), some (.int x5), some (.int x6), some (.int x7), some (.int x8), some (.int x9), some (.int x10), none] [] h := by
  unfold b_L_tick_413 at hf
  refine E_aload_n (pc := 413) O 1 dL_tick_413 rfl rfl ?_
  refine E_iload (pc := 414) O dL_tick_414 rfl ?_
  refine E_bipush (pc := 416) O (6 : Int32) dL_tick_416 (by decide) ?_
  refine E_iadd (pc := 418) O dL_tick_418 ?_
  refine E_iconst (pc := 419) O (0 : Int32) dL_tick_419 (by decide) ?_
  refine E_iastore (pc := 420) O dL_tick_420 hf (fun h23 hf => ?_)
  exact t_b_L_tick_421 O Z _ hr187 h23 x0 x1 x2 x3 x4 x5 x6 x7 x8 x9 x10 hf
set_option maxHeartbeats 4000000 in
set_option maxRecDepth 100000 in
theorem t_b_L_tick_393 {K : Cx} {fr : Bool} {out : MH} (O : Ok K yL_tick.cls cL_tick 12 (rmm 2 52 0 0)) (Z : Out K none fr none out) (rec187 : MH → Nat → Nat → Nat → Nat → Nat → Int32 → Int32 → Option MH) (hr187 : ∀ (h : MH) (x0 : Nat) (x1 : Nat) (x2 : Nat) (x3 : Nat) (x4 : Nat) (x5 : Int32) (x6 : Int32), rec187 h x0 x1 x2 x3 x4 x5 x6 = some out → EE K (fr, 0, 0) 187 [some (.ref x0), some (.ref x1), some (.ref x2), some (.ref x3), some (.ref x4), some (.int x5), some (.int x6), none, none, none, none, none] [] h) (h : MH) (x0 : Nat) (x1 : Nat) (x2 : Nat) (x3 : Nat) (x4 : Nat) (x5 : Int32) (x6 : Int32) (x7 : Int32) (x8 : Int32) (x9 : Int32) (x10 : Int32) (hf : b_L_tick_393 rec187 h x0 x1 x2 x3 x4 x5 x6 x7 x8 x9 x10 = some out) : EE K (fr, 0, 0) 393 [some (.ref x0), some (.ref x1), some (.ref x2), some (.ref x3), some (.ref x4), some (.int x5), some (.int x6), some (.int x7), some (.int x8), some (.int x9), some (.int x10), none] [] h := by
  unfold b_L_tick_393 at hf
  refine E_iload (pc := 393) O dL_tick_393 rfl ?_
  refine E_if_ge (pc := 395) O 401 dL_tick_395 (by decide) hf (fun hf => ?_) (fun hf => ?_)
  · refine E_iload (pc := 401) O dL_tick_401 rfl ?_
    refine E_iconst (pc := 403) O (1 : Int32) dL_tick_403 (by decide) ?_
    refine E_icmp_eq (pc := 404) O 413 dL_tick_404 (by decide) hf (fun hf => ?_) (fun hf => ?_)
    · exact t_b_L_tick_413 O Z _ hr187 h x0 x1 x2 x3 x4 x5 x6 x7 x8 x9 x10 hf
    · refine E_iload (pc := 407) O dL_tick_407 rfl ?_
      refine E_iconst (pc := 409) O (2 : Int32) dL_tick_409 (by decide) ?_
      refine E_icmp_ne (pc := 410) O 421 dL_tick_410 (by decide) hf (fun hf => ?_) (fun hf => ?_)
      · exact t_b_L_tick_421 O Z _ hr187 h x0 x1 x2 x3 x4 x5 x6 x7 x8 x9 x10 hf
      · exact t_b_L_tick_413 O Z _ hr187 h x0 x1 x2 x3 x4 x5 x6 x7 x8 x9 x10 hf
  · refine E_goto (pc := 398) O 531 dL_tick_398 (by decide) ?_
    exact E_sub (L' := [some (.ref x0), some (.ref x1), some (.ref x2), some (.ref x3), some (.ref x4), some (.int x5), some (.int x6), none, none, none, none, none]) (And.intro rfl (And.intro rfl (And.intro rfl (And.intro rfl (And.intro rfl (And.intro rfl (And.intro rfl True.intro))))))) (t_b_L_tick_531 O Z _ hr187 h x0 x1 x2 x3 x4 x5 x6 hf)
set_option maxHeartbeats 4000000 in
set_option maxRecDepth 100000 in
theorem t_b_L_tick_382 {K : Cx} {fr : Bool} {out : MH} (O : Ok K yL_tick.cls cL_tick 12 (rmm 2 52 0 0)) (Z : Out K none fr none out) (rec187 : MH → Nat → Nat → Nat → Nat → Nat → Int32 → Int32 → Option MH) (hr187 : ∀ (h : MH) (x0 : Nat) (x1 : Nat) (x2 : Nat) (x3 : Nat) (x4 : Nat) (x5 : Int32) (x6 : Int32), rec187 h x0 x1 x2 x3 x4 x5 x6 = some out → EE K (fr, 0, 0) 187 [some (.ref x0), some (.ref x1), some (.ref x2), some (.ref x3), some (.ref x4), some (.int x5), some (.int x6), none, none, none, none, none] [] h) (h : MH) (x0 : Nat) (x1 : Nat) (x2 : Nat) (x3 : Nat) (x4 : Nat) (x5 : Int32) (x6 : Int32) (x7 : Int32) (x8 : Int32) (x9 : Int32) (x10 : Int32) (hf : b_L_tick_382 rec187 h x0 x1 x2 x3 x4 x5 x6 x7 x8 x9 x10 = some out) : EE K (fr, 0, 0) 382 [some (.ref x0), some (.ref x1), some (.ref x2), some (.ref x3), some (.ref x4), some (.int x5), some (.int x6), some (.int x7), some (.int x8), some (.int x9), some (.int x10), none] [] h := by
  unfold b_L_tick_382 at hf
  refine E_aload_n (pc := 382) O 1 dL_tick_382 rfl rfl ?_
  refine E_iload (pc := 383) O dL_tick_383 rfl ?_
  refine E_bipush (pc := 385) O (6 : Int32) dL_tick_385 (by decide) ?_
  refine E_iadd (pc := 387) O dL_tick_387 ?_
  refine E_dup2 (pc := 388) O dL_tick_388 rfl rfl ?_
  refine E_iaload (pc := 389) O dL_tick_389 hf (fun v24 hf => ?_)
  refine E_iconst (pc := 390) O (1 : Int32) dL_tick_390 (by decide) ?_
  refine E_iadd (pc := 391) O dL_tick_391 ?_
  refine E_iastore (pc := 392) O dL_tick_392 hf (fun h25 hf => ?_)
  exact t_b_L_tick_393 O Z _ hr187 h25 x0 x1 x2 x3 x4 x5 x6 x7 x8 x9 x10 hf
set_option maxHeartbeats 4000000 in
set_option maxRecDepth 100000 in
theorem t_b_L_tick_364 {K : Cx} {fr : Bool} {out : MH} (O : Ok K yL_tick.cls cL_tick 12 (rmm 2 52 0 0)) (Z : Out K none fr none out) (rec187 : MH → Nat → Nat → Nat → Nat → Nat → Int32 → Int32 → Option MH) (hr187 : ∀ (h : MH) (x0 : Nat) (x1 : Nat) (x2 : Nat) (x3 : Nat) (x4 : Nat) (x5 : Int32) (x6 : Int32), rec187 h x0 x1 x2 x3 x4 x5 x6 = some out → EE K (fr, 0, 0) 187 [some (.ref x0), some (.ref x1), some (.ref x2), some (.ref x3), some (.ref x4), some (.int x5), some (.int x6), none, none, none, none, none] [] h) (h : MH) (x0 : Nat) (x1 : Nat) (x2 : Nat) (x3 : Nat) (x4 : Nat) (x5 : Int32) (x6 : Int32) (x7 : Int32) (x8 : Int32) (x9 : Int32) (s0 : Int32) (hf : b_L_tick_364 rec187 h x0 x1 x2 x3 x4 x5 x6 x7 x8 x9 s0 = some out) : EE K (fr, 0, 0) 364 [some (.ref x0), some (.ref x1), some (.ref x2), some (.ref x3), some (.ref x4), some (.int x5), some (.int x6), some (.int x7), some (.int x8), some (.int x9), none, none] [.int s0] h := by
  unfold b_L_tick_364 at hf
  refine E_istore (pc := 364) O [some (.ref x0), some (.ref x1), some (.ref x2), some (.ref x3), some (.ref x4), some (.int x5), some (.int x6), some (.int x7), some (.int x8), some (.int x9), some (.int s0), none] dL_tick_364 (by decide) rfl rfl ?_
  refine E_iload (pc := 366) O dL_tick_366 rfl ?_
  refine E_iconst (pc := 368) O (2 : Int32) dL_tick_368 (by decide) ?_
  refine E_icmp_ne (pc := 369) O 393 dL_tick_369 (by decide) hf (fun hf => ?_) (fun hf => ?_)
  · exact t_b_L_tick_393 O Z _ hr187 h x0 x1 x2 x3 x4 x5 x6 x7 x8 x9 s0 hf
  · refine E_iload (pc := 372) O dL_tick_372 rfl ?_
    refine E_if_lt (pc := 374) O 382 dL_tick_374 (by decide) hf (fun hf => ?_) (fun hf => ?_)
    · exact t_b_L_tick_382 O Z _ hr187 h x0 x1 x2 x3 x4 x5 x6 x7 x8 x9 s0 hf
    · refine E_iload (pc := 377) O dL_tick_377 rfl ?_
      refine E_if_eq (pc := 379) O 393 dL_tick_379 (by decide) hf (fun hf => ?_) (fun hf => ?_)
      · exact t_b_L_tick_393 O Z _ hr187 h x0 x1 x2 x3 x4 x5 x6 x7 x8 x9 s0 hf
      · exact t_b_L_tick_382 O Z _ hr187 h x0 x1 x2 x3 x4 x5 x6 x7 x8 x9 s0 hf
set_option maxHeartbeats 4000000 in
set_option maxRecDepth 100000 in
theorem t_b_L_tick_363 {K : Cx} {fr : Bool} {out : MH} (O : Ok K yL_tick.cls cL_tick 12 (rmm 2 52 0 0)) (Z : Out K none fr none out) (rec187 : MH → Nat → Nat → Nat → Nat → Nat → Int32 → Int32 → Option MH) (hr187 : ∀ (h : MH) (x0 : Nat) (x1 : Nat) (x2 : Nat) (x3 : Nat) (x4 : Nat) (x5 : Int32) (x6 : Int32), rec187 h x0 x1 x2 x3 x4 x5 x6 = some out → EE K (fr, 0, 0) 187 [some (.ref x0), some (.ref x1), some (.ref x2), some (.ref x3), some (.ref x4), some (.int x5), some (.int x6), none, none, none, none, none] [] h) (h : MH) (x0 : Nat) (x1 : Nat) (x2 : Nat) (x3 : Nat) (x4 : Nat) (x5 : Int32) (x6 : Int32) (x7 : Int32) (x8 : Int32) (x9 : Int32) (hf : b_L_tick_363 rec187 h x0 x1 x2 x3 x4 x5 x6 x7 x8 x9 = some out) : EE K (fr, 0, 0) 363 [some (.ref x0), some (.ref x1), some (.ref x2), some (.ref x3), some (.ref x4), some (.int x5), some (.int x6), some (.int x7), some (.int x8), some (.int x9), none, none] [] h := by
  unfold b_L_tick_363 at hf
  refine E_iconst (pc := 363) O (0 : Int32) dL_tick_363 (by decide) ?_
  exact t_b_L_tick_364 O Z _ hr187 h x0 x1 x2 x3 x4 x5 x6 x7 x8 x9 (0 : Int32) hf
set_option maxHeartbeats 4000000 in
set_option maxRecDepth 100000 in
theorem t_b_L_tick_344 {K : Cx} {fr : Bool} {out : MH} (O : Ok K yL_tick.cls cL_tick 12 (rmm 2 52 0 0)) (Z : Out K none fr none out) (rec187 : MH → Nat → Nat → Nat → Nat → Nat → Int32 → Int32 → Option MH) (hr187 : ∀ (h : MH) (x0 : Nat) (x1 : Nat) (x2 : Nat) (x3 : Nat) (x4 : Nat) (x5 : Int32) (x6 : Int32), rec187 h x0 x1 x2 x3 x4 x5 x6 = some out → EE K (fr, 0, 0) 187 [some (.ref x0), some (.ref x1), some (.ref x2), some (.ref x3), some (.ref x4), some (.int x5), some (.int x6), none, none, none, none, none] [] h) (h : MH) (x0 : Nat) (x1 : Nat) (x2 : Nat) (x3 : Nat) (x4 : Nat) (x5 : Int32) (x6 : Int32) (x7 : Int32) (x8 : Int32) (x9 : Int32) (hf : b_L_tick_344 rec187 h x0 x1 x2 x3 x4 x5 x6 x7 x8 x9 = some out) : EE K (fr, 0, 0) 344 [some (.ref x0), some (.ref x1), some (.ref x2), some (.ref x3), some (.ref x4), some (.int x5), some (.int x6), some (.int x7), some (.int x8), some (.int x9), none, none] [] h := by
  unfold b_L_tick_344 at hf
  refine E_iload (pc := 344) O dL_tick_344 rfl ?_
  refine E_if_lt (pc := 346) O 363 dL_tick_346 (by decide) hf (fun hf => ?_) (fun hf => ?_)
  · exact t_b_L_tick_363 O Z _ hr187 h x0 x1 x2 x3 x4 x5 x6 x7 x8 x9 hf
  · refine E_iload (pc := 349) O dL_tick_349 rfl ?_
    refine E_bipush (pc := 351) O (20 : Int32) dL_tick_351 (by decide) ?_
    refine E_irem (pc := 353) O dL_tick_353 hf (fun v26 hf => ?_)
    refine E_bipush (pc := 354) O (6 : Int32) dL_tick_354 (by decide) ?_
    refine E_icmp_ne (pc := 356) O 363 dL_tick_356 (by decide) hf (fun hf => ?_) (fun hf => ?_)
    · exact t_b_L_tick_363 O Z _ hr187 h x0 x1 x2 x3 x4 x5 x6 x7 x8 x9 hf
    · refine E_iconst (pc := 359) O (1 : Int32) dL_tick_359 (by decide) ?_
      refine E_goto (pc := 360) O 364 dL_tick_360 (by decide) ?_
      exact t_b_L_tick_364 O Z _ hr187 h x0 x1 x2 x3 x4 x5 x6 x7 x8 x9 (1 : Int32) hf
set_option maxHeartbeats 4000000 in
set_option maxRecDepth 100000 in
theorem t_b_L_tick_601 {K : Cx} {fr : Bool} {out : MH} (O : Ok K yL_tick.cls cL_tick 12 (rmm 2 52 0 0)) (Z : Out K none fr none out) (rec540 : MH → Nat → Nat → Nat → Int32 → Option MH) (hr540 : ∀ (h : MH) (x1 : Nat) (x2 : Nat) (x4 : Nat) (x6 : Int32), rec540 h x1 x2 x4 x6 = some out → EE K (fr, 0, 0) 540 [none, some (.ref x1), some (.ref x2), none, some (.ref x4), none, some (.int x6), none, none, none, none, none] [] h) (h : MH) (x1 : Nat) (x2 : Nat) (x4 : Nat) (x6 : Int32) (s0 : Nat) (s1 : Int32) (s2 : Int32) (s3 : Int32) (hf : b_L_tick_601 rec540 h x1 x2 x4 x6 s0 s1 s2 s3 = some out) : EE K (fr, 0, 0) 601 [none, some (.ref x1), some (.ref x2), none, some (.ref x4), none, some (.int x6), none, none, none, none, none] [.int s3, .int s2, .int s1, .ref s0] h := by
  unfold b_L_tick_601 at hf
  refine E_iadd (pc := 601) O dL_tick_601 ?_
  refine E_iastore (pc := 602) O dL_tick_602 hf (fun h27 hf => ?_)
  refine E_iinc (pc := 603) O (1 : Int32) [none, some (.ref x1), some (.ref x2), none, some (.ref x4), none, some (.int (x6 + (1 : Int32))), none, none, none, none, none] dL_tick_603 rfl (by decide) rfl (by decide) rfl ?_
  refine E_goto (pc := 606) O 540 dL_tick_606 (by decide) ?_
  exact hr540 h27 x1 x2 x4 (x6 + (1 : Int32)) hf
set_option maxHeartbeats 4000000 in
set_option maxRecDepth 100000 in
theorem t_b_L_tick_574 {K : Cx} {fr : Bool} {out : MH} (O : Ok K yL_tick.cls cL_tick 12 (rmm 2 52 0 0)) (Z : Out K none fr none out) (rec540 : MH → Nat → Nat → Nat → Int32 → Option MH) (hr540 : ∀ (h : MH) (x1 : Nat) (x2 : Nat) (x4 : Nat) (x6 : Int32), rec540 h x1 x2 x4 x6 = some out → EE K (fr, 0, 0) 540 [none, some (.ref x1), some (.ref x2), none, some (.ref x4), none, some (.int x6), none, none, none, none, none] [] h) (h : MH) (x1 : Nat) (x2 : Nat) (x4 : Nat) (x6 : Int32) (hf : b_L_tick_574 rec540 h x1 x2 x4 x6 = some out) : EE K (fr, 0, 0) 574 [none, some (.ref x1), some (.ref x2), none, some (.ref x4), none, some (.int x6), none, none, none, none, none] [] h := by
  unfold b_L_tick_574 at hf
  refine E_aload_n (pc := 574) O 2 dL_tick_574 rfl rfl ?_
  refine E_iconst (pc := 575) O (4 : Int32) dL_tick_575 (by decide) ?_
  refine E_iload (pc := 576) O dL_tick_576 rfl ?_
  refine E_imul (pc := 578) O dL_tick_578 ?_
  refine E_iconst (pc := 579) O (3 : Int32) dL_tick_579 (by decide) ?_
  refine E_iadd (pc := 580) O dL_tick_580 ?_
  refine E_dup2 (pc := 581) O dL_tick_581 rfl rfl ?_
  refine E_iaload (pc := 582) O dL_tick_582 hf (fun v28 hf => ?_)
  refine E_aload_n (pc := 583) O 1 dL_tick_583 rfl rfl ?_
  refine E_bipush (pc := 584) O (9 : Int32) dL_tick_584 (by decide) ?_
  refine E_iload (pc := 586) O dL_tick_586 rfl ?_
  refine E_imul (pc := 588) O dL_tick_588 ?_
  refine E_iconst (pc := 589) O (2 : Int32) dL_tick_589 (by decide) ?_
  refine E_iadd (pc := 590) O dL_tick_590 ?_
  refine E_iaload (pc := 591) O dL_tick_591 hf (fun v29 hf => ?_)
  refine E_iconst (pc := 592) O (3 : Int32) dL_tick_592 (by decide) ?_
  refine E_icmp_ne (pc := 593) O 600 dL_tick_593 (by decide) hf (fun hf => ?_) (fun hf => ?_)
  · refine E_iconst (pc := 600) O (0 : Int32) dL_tick_600 (by decide) ?_
    exact t_b_L_tick_601 O Z _ hr540 h x1 x2 x4 x6 x2 (((4 : Int32) * x6) + (3 : Int32)) v28 (0 : Int32) hf
  · refine E_iconst (pc := 596) O (1 : Int32) dL_tick_596 (by decide) ?_
    refine E_goto (pc := 597) O 601 dL_tick_597 (by decide) ?_
    exact t_b_L_tick_601 O Z _ hr540 h x1 x2 x4 x6 x2 (((4 : Int32) * x6) + (3 : Int32)) v28 (1 : Int32) hf
set_option maxHeartbeats 4000000 in
set_option maxRecDepth 100000 in
theorem t_b_L_tick_540 {K : Cx} {fr : Bool} {out : MH} (O : Ok K yL_tick.cls cL_tick 12 (rmm 2 52 0 0)) (Z : Out K none fr none out) (rec540 : MH → Nat → Nat → Nat → Int32 → Option MH) (hr540 : ∀ (h : MH) (x1 : Nat) (x2 : Nat) (x4 : Nat) (x6 : Int32), rec540 h x1 x2 x4 x6 = some out → EE K (fr, 0, 0) 540 [none, some (.ref x1), some (.ref x2), none, some (.ref x4), none, some (.int x6), none, none, none, none, none] [] h) (h : MH) (x1 : Nat) (x2 : Nat) (x4 : Nat) (x6 : Int32) (hf : b_L_tick_540 rec540 h x1 x2 x4 x6 = some out) : EE K (fr, 0, 0) 540 [none, some (.ref x1), some (.ref x2), none, some (.ref x4), none, some (.int x6), none, none, none, none, none] [] h := by
  unfold b_L_tick_540 at hf
  refine E_iload (pc := 540) O dL_tick_540 rfl ?_
  refine E_aload (pc := 542) O dL_tick_542 rfl ?_
  refine E_iconst (pc := 544) O (0 : Int32) dL_tick_544 (by decide) ?_
  refine E_iaload (pc := 545) O dL_tick_545 hf (fun v30 hf => ?_)
  refine E_icmp_ge (pc := 546) O 609 dL_tick_546 (by decide) hf (fun hf => ?_) (fun hf => ?_)
  · refine E_aload (pc := 609) O dL_tick_609 rfl ?_
    refine E_iconst (pc := 611) O (2 : Int32) dL_tick_611 (by decide) ?_
    refine E_dup2 (pc := 612) O dL_tick_612 rfl rfl ?_
    refine E_iaload (pc := 613) O dL_tick_613 hf (fun v31 hf => ?_)
    refine E_iconst (pc := 614) O (1 : Int32) dL_tick_614 (by decide) ?_
    refine E_iadd (pc := 615) O dL_tick_615 ?_
    refine E_iastore (pc := 616) O dL_tick_616 hf (fun h32 hf => ?_)
    exact E_vret (pc := 617) O Z hf ⟨(Nat.le_of_ble_eq_true rfl), (Nat.le_of_ble_eq_true rfl)⟩ dL_tick_617
  · refine E_aload_n (pc := 549) O 1 dL_tick_549 rfl rfl ?_
    refine E_bipush (pc := 550) O (9 : Int32) dL_tick_550 (by decide) ?_
    refine E_iload (pc := 552) O dL_tick_552 rfl ?_
    refine E_imul (pc := 554) O dL_tick_554 ?_
    refine E_iconst (pc := 555) O (5 : Int32) dL_tick_555 (by decide) ?_
    refine E_iadd (pc := 556) O dL_tick_556 ?_
    refine E_iaload (pc := 557) O dL_tick_557 hf (fun v33 hf => ?_)
    refine E_if_le (pc := 558) O 574 dL_tick_558 (by decide) hf (fun hf => ?_) (fun hf => ?_)
    · exact t_b_L_tick_574 O Z _ hr540 h x1 x2 x4 x6 hf
    · refine E_aload_n (pc := 561) O 1 dL_tick_561 rfl rfl ?_
      refine E_bipush (pc := 562) O (9 : Int32) dL_tick_562 (by decide) ?_
      refine E_iload (pc := 564) O dL_tick_564 rfl ?_
      refine E_imul (pc := 566) O dL_tick_566 ?_
      refine E_iconst (pc := 567) O (5 : Int32) dL_tick_567 (by decide) ?_
      refine E_iadd (pc := 568) O dL_tick_568 ?_
      refine E_dup2 (pc := 569) O dL_tick_569 rfl rfl ?_
      refine E_iaload (pc := 570) O dL_tick_570 hf (fun v34 hf => ?_)
      refine E_iconst (pc := 571) O (1 : Int32) dL_tick_571 (by decide) ?_
      refine E_isub (pc := 572) O dL_tick_572 ?_
      refine E_iastore (pc := 573) O dL_tick_573 hf (fun h35 hf => ?_)
      exact t_b_L_tick_574 O Z _ hr540 h35 x1 x2 x4 x6 hf
theorem t_f_L_tick_540 {K : Cx} {fr : Bool} {out : MH} (O : Ok K yL_tick.cls cL_tick 12 (rmm 2 52 0 0)) (Z : Out K none fr none out) : ∀ (n : Nat) (h : MH) (x1 : Nat) (x2 : Nat) (x4 : Nat) (x6 : Int32), f_L_tick_540 n h x1 x2 x4 x6 = some out → EE K (fr, 0, 0) 540 [none, some (.ref x1), some (.ref x2), none, some (.ref x4), none, some (.int x6), none, none, none, none, none] [] h := by
  intro n
  induction n with
  | zero => intro h x1 x2 x4 x6 hf; cases hf
  | succ n ih => intro h x1 x2 x4 x6 hf; exact t_b_L_tick_540 O Z _ ih h x1 x2 x4 x6 hf
set_option maxHeartbeats 4000000 in
set_option maxRecDepth 100000 in
theorem t_b_L_tick_311 {K : Cx} {fr : Bool} {out : MH} (O : Ok K yL_tick.cls cL_tick 12 (rmm 2 52 0 0)) (Z : Out K none fr none out) (rec187 : MH → Nat → Nat → Nat → Nat → Nat → Int32 → Int32 → Option MH) (hr187 : ∀ (h : MH) (x0 : Nat) (x1 : Nat) (x2 : Nat) (x3 : Nat) (x4 : Nat) (x5 : Int32) (x6 : Int32), rec187 h x0 x1 x2 x3 x4 x5 x6 = some out → EE K (fr, 0, 0) 187 [some (.ref x0), some (.ref x1), some (.ref x2), some (.ref x3), some (.ref x4), some (.int x5), some (.int x6), none, none, none, none, none] [] h) (rec258 : MH → Nat → Nat → Nat → Nat → Nat → Int32 → Int32 → Int32 → Int32 → Int32 → Int32 → Int32 → Option MH) (hr258 : ∀ (h : MH) (x0 : Nat) (x1 : Nat) (x2 : Nat) (x3 : Nat) (x4 : Nat) (x5 : Int32) (x6 : Int32) (x7 : Int32) (x8 : Int32) (x9 : Int32) (x10 : Int32) (x11 : Int32), rec258 h x0 x1 x2 x3 x4 x5 x6 x7 x8 x9 x10 x11 = some out → EE K (fr, 0, 0) 258 [some (.ref x0), some (.ref x1), some (.ref x2), some (.ref x3), some (.ref x4), some (.int x5), some (.int x6), some (.int x7), some (.int x8), some (.int x9), some (.int x10), some (.int x11)] [] h) (h : MH) (x0 : Nat) (x1 : Nat) (x2 : Nat) (x3 : Nat) (x4 : Nat) (x5 : Int32) (x6 : Int32) (x7 : Int32) (x8 : Int32) (x9 : Int32) (x11 : Int32) (s0 : Int32) (hf : b_L_tick_311 rec187 rec258 h x0 x1 x2 x3 x4 x5 x6 x7 x8 x9 x11 s0 = some out) : EE K (fr, 0, 0) 311 [some (.ref x0), some (.ref x1), some (.ref x2), some (.ref x3), some (.ref x4), some (.int x5), some (.int x6), some (.int x7), some (.int x8), some (.int x9), none, some (.int x11)] [.int s0] h := by
  unfold b_L_tick_311 at hf
  refine E_istore (pc := 311) O [some (.ref x0), some (.ref x1), some (.ref x2), some (.ref x3), some (.ref x4), some (.int x5), some (.int x6), some (.int x7), some (.int x8), some (.int x9), some (.int s0), some (.int x11)] dL_tick_311 (by decide) rfl rfl ?_
  refine E_iinc (pc := 313) O (1 : Int32) [some (.ref x0), some (.ref x1), some (.ref x2), some (.ref x3), some (.ref x4), some (.int x5), some (.int x6), some (.int x7), some (.int x8), some (.int x9), some (.int s0), some (.int (x11 + (1 : Int32)))] dL_tick_313 rfl (by decide) rfl (by decide) rfl ?_
  refine E_goto (pc := 316) O 258 dL_tick_316 (by decide) ?_
  exact hr258 h x0 x1 x2 x3 x4 x5 x6 x7 x8 x9 s0 (x11 + (1 : Int32)) hf
set_option maxHeartbeats 4000000 in
set_option maxRecDepth 100000 in
theorem t_b_L_tick_306 {K : Cx} {fr : Bool} {out : MH} (O : Ok K yL_tick.cls cL_tick 12 (rmm 2 52 0 0)) (Z : Out K none fr none out) (rec187 : MH → Nat → Nat → Nat → Nat → Nat → Int32 → Int32 → Option MH) (hr187 : ∀ (h : MH) (x0 : Nat) (x1 : Nat) (x2 : Nat) (x3 : Nat) (x4 : Nat) (x5 : Int32) (x6 : Int32), rec187 h x0 x1 x2 x3 x4 x5 x6 = some out → EE K (fr, 0, 0) 187 [some (.ref x0), some (.ref x1), some (.ref x2), some (.ref x3), some (.ref x4), some (.int x5), some (.int x6), none, none, none, none, none] [] h) (rec258 : MH → Nat → Nat → Nat → Nat → Nat → Int32 → Int32 → Int32 → Int32 → Int32 → Int32 → Int32 → Option MH) (hr258 : ∀ (h : MH) (x0 : Nat) (x1 : Nat) (x2 : Nat) (x3 : Nat) (x4 : Nat) (x5 : Int32) (x6 : Int32) (x7 : Int32) (x8 : Int32) (x9 : Int32) (x10 : Int32) (x11 : Int32), rec258 h x0 x1 x2 x3 x4 x5 x6 x7 x8 x9 x10 x11 = some out → EE K (fr, 0, 0) 258 [some (.ref x0), some (.ref x1), some (.ref x2), some (.ref x3), some (.ref x4), some (.int x5), some (.int x6), some (.int x7), some (.int x8), some (.int x9), some (.int x10), some (.int x11)] [] h) (h : MH) (x0 : Nat) (x1 : Nat) (x2 : Nat) (x3 : Nat) (x4 : Nat) (x5 : Int32) (x6 : Int32) (x7 : Int32) (x8 : Int32) (x9 : Int32) (x11 : Int32) (hf : b_L_tick_306 rec187 rec258 h x0 x1 x2 x3 x4 x5 x6 x7 x8 x9 x11 = some out) : EE K (fr, 0, 0) 306 [some (.ref x0), some (.ref x1), some (.ref x2), some (.ref x3), some (.ref x4), some (.int x5), some (.int x6), some (.int x7), some (.int x8), some (.int x9), none, some (.int x11)] [] h := by
  unfold b_L_tick_306 at hf
  refine E_iconst (pc := 306) O (1 : Int32) dL_tick_306 (by decide) ?_
  refine E_goto (pc := 307) O 311 dL_tick_307 (by decide) ?_
  exact t_b_L_tick_311 O Z _ hr187 _ hr258 h x0 x1 x2 x3 x4 x5 x6 x7 x8 x9 x11 (1 : Int32) hf
set_option maxHeartbeats 4000000 in
set_option maxRecDepth 100000 in
theorem t_b_L_tick_310 {K : Cx} {fr : Bool} {out : MH} (O : Ok K yL_tick.cls cL_tick 12 (rmm 2 52 0 0)) (Z : Out K none fr none out) (rec187 : MH → Nat → Nat → Nat → Nat → Nat → Int32 → Int32 → Option MH) (hr187 : ∀ (h : MH) (x0 : Nat) (x1 : Nat) (x2 : Nat) (x3 : Nat) (x4 : Nat) (x5 : Int32) (x6 : Int32), rec187 h x0 x1 x2 x3 x4 x5 x6 = some out → EE K (fr, 0, 0) 187 [some (.ref x0), some (.ref x1), some (.ref x2), some (.ref x3), some (.ref x4), some (.int x5), some (.int x6), none, none, none, none, none] [] h) (rec258 : MH → Nat → Nat → Nat → Nat → Nat → Int32 → Int32 → Int32 → Int32 → Int32 → Int32 → Int32 → Option MH) (hr258 : ∀ (h : MH) (x0 : Nat) (x1 : Nat) (x2 : Nat) (x3 : Nat) (x4 : Nat) (x5 : Int32) (x6 : Int32) (x7 : Int32) (x8 : Int32) (x9 : Int32) (x10 : Int32) (x11 : Int32), rec258 h x0 x1 x2 x3 x4 x5 x6 x7 x8 x9 x10 x11 = some out → EE K (fr, 0, 0) 258 [some (.ref x0), some (.ref x1), some (.ref x2), some (.ref x3), some (.ref x4), some (.int x5), some (.int x6), some (.int x7), some (.int x8), some (.int x9), some (.int x10), some (.int x11)] [] h) (h : MH) (x0 : Nat) (x1 : Nat) (x2 : Nat) (x3 : Nat) (x4 : Nat) (x5 : Int32) (x6 : Int32) (x7 : Int32) (x8 : Int32) (x9 : Int32) (x11 : Int32) (hf : b_L_tick_310 rec187 rec258 h x0 x1 x2 x3 x4 x5 x6 x7 x8 x9 x11 = some out) : EE K (fr, 0, 0) 310 [some (.ref x0), some (.ref x1), some (.ref x2), some (.ref x3), some (.ref x4), some (.int x5), some (.int x6), some (.int x7), some (.int x8), some (.int x9), none, some (.int x11)] [] h := by
  unfold b_L_tick_310 at hf
  refine E_iconst (pc := 310) O (0 : Int32) dL_tick_310 (by decide) ?_
  exact t_b_L_tick_311 O Z _ hr187 _ hr258 h x0 x1 x2 x3 x4 x5 x6 x7 x8 x9 x11 (0 : Int32) hf
set_option maxHeartbeats 4000000 in
set_option maxRecDepth 100000 in
theorem t_b_L_tick_343 {K : Cx} {fr : Bool} {out : MH} (O : Ok K yL_tick.cls cL_tick 12 (rmm 2 52 0 0)) (Z : Out K none fr none out) (rec187 : MH → Nat → Nat → Nat → Nat → Nat → Int32 → Int32 → Option MH) (hr187 : ∀ (h : MH) (x0 : Nat) (x1 : Nat) (x2 : Nat) (x3 : Nat) (x4 : Nat) (x5 : Int32) (x6 : Int32), rec187 h x0 x1 x2 x3 x4 x5 x6 = some out → EE K (fr, 0, 0) 187 [some (.ref x0), some (.ref x1), some (.ref x2), some (.ref x3), some (.ref x4), some (.int x5), some (.int x6), none, none, none, none, none] [] h) (h : MH) (x0 : Nat) (x1 : Nat) (x2 : Nat) (x3 : Nat) (x4 : Nat) (x5 : Int32) (x6 : Int32) (x7 : Int32) (x8 : Int32) (x9 : Int32) (s0 : Nat) (s1 : Int32) (s2 : Int32) (hf : b_L_tick_343 rec187 h x0 x1 x2 x3 x4 x5 x6 x7 x8 x9 s0 s1 s2 = some out) : EE K (fr, 0, 0) 343 [some (.ref x0), some (.ref x1), some (.ref x2), some (.ref x3), some (.ref x4), some (.int x5), some (.int x6), some (.int x7), some (.int x8), some (.int x9), none, none] [.int s2, .int s1, .ref s0] h := by
  unfold b_L_tick_343 at hf
  refine E_iastore (pc := 343) O dL_tick_343 hf (fun h36 hf => ?_)
  exact t_b_L_tick_344 O Z _ hr187 h36 x0 x1 x2 x3 x4 x5 x6 x7 x8 x9 hf
set_option maxHeartbeats 4000000 in
set_option maxRecDepth 100000 in
theorem t_b_L_tick_258 {K : Cx} {fr : Bool} {out : MH} (O : Ok K yL_tick.cls cL_tick 12 (rmm 2 52 0 0)) (Z : Out K none fr none out) (rec187 : MH → Nat → Nat → Nat → Nat → Nat → Int32 → Int32 → Option MH) (hr187 : ∀ (h : MH) (x0 : Nat) (x1 : Nat) (x2 : Nat) (x3 : Nat) (x4 : Nat) (x5 : Int32) (x6 : Int32), rec187 h x0 x1 x2 x3 x4 x5 x6 = some out → EE K (fr, 0, 0) 187 [some (.ref x0), some (.ref x1), some (.ref x2), some (.ref x3), some (.ref x4), some (.int x5), some (.int x6), none, none, none, none, none] [] h) (rec258 : MH → Nat → Nat → Nat → Nat → Nat → Int32 → Int32 → Int32 → Int32 → Int32 → Int32 → Int32 → Option MH) (hr258 : ∀ (h : MH) (x0 : Nat) (x1 : Nat) (x2 : Nat) (x3 : Nat) (x4 : Nat) (x5 : Int32) (x6 : Int32) (x7 : Int32) (x8 : Int32) (x9 : Int32) (x10 : Int32) (x11 : Int32), rec258 h x0 x1 x2 x3 x4 x5 x6 x7 x8 x9 x10 x11 = some out → EE K (fr, 0, 0) 258 [some (.ref x0), some (.ref x1), some (.ref x2), some (.ref x3), some (.ref x4), some (.int x5), some (.int x6), some (.int x7), some (.int x8), some (.int x9), some (.int x10), some (.int x11)] [] h) (h : MH) (x0 : Nat) (x1 : Nat) (x2 : Nat) (x3 : Nat) (x4 : Nat) (x5 : Int32) (x6 : Int32) (x7 : Int32) (x8 : Int32) (x9 : Int32) (x10 : Int32) (x11 : Int32) (hf : b_L_tick_258 rec187 rec258 h x0 x1 x2 x3 x4 x5 x6 x7 x8 x9 x10 x11 = some out) : EE K (fr, 0, 0) 258 [some (.ref x0), some (.ref x1), some (.ref x2), some (.ref x3), some (.ref x4), some (.int x5), some (.int x6), some (.int x7), some (.int x8), some (.int x9), some (.int x10), some (.int x11)] [] h := by
  unfold b_L_tick_258 at hf
  refine E_iload (pc := 258) O dL_tick_258 rfl ?_
  refine E_iload (pc := 260) O dL_tick_260 rfl ?_
  refine E_icmp_ge (pc := 262) O 319 dL_tick_262 (by decide) hf (fun hf => ?_) (fun hf => ?_)
  · refine E_aload_n (pc := 319) O 1 dL_tick_319 rfl rfl ?_
    refine E_iload (pc := 320) O dL_tick_320 rfl ?_
    refine E_bipush (pc := 322) O (6 : Int32) dL_tick_322 (by decide) ?_
    refine E_iadd (pc := 324) O dL_tick_324 ?_
    refine E_iload (pc := 325) O dL_tick_325 rfl ?_
    refine E_if_eq (pc := 327) O 342 dL_tick_327 (by decide) hf (fun hf => ?_) (fun hf => ?_)
    · refine E_iconst (pc := 342) O (0 : Int32) dL_tick_342 (by decide) ?_
      exact E_sub (L' := [some (.ref x0), some (.ref x1), some (.ref x2), some (.ref x3), some (.ref x4), some (.int x5), some (.int x6), some (.int x7), some (.int x8), some (.int x9), none, none]) (And.intro rfl (And.intro rfl (And.intro rfl (And.intro rfl (And.intro rfl (And.intro rfl (And.intro rfl (And.intro rfl (And.intro rfl (And.intro rfl True.intro)))))))))) (t_b_L_tick_343 O Z _ hr187 h x0 x1 x2 x3 x4 x5 x6 x7 x8 x9 x1 (x7 + (6 : Int32)) (0 : Int32) hf)
    · refine E_aload_n (pc := 330) O 1 dL_tick_330 rfl rfl ?_
      refine E_iload (pc := 331) O dL_tick_331 rfl ?_
      refine E_bipush (pc := 333) O (6 : Int32) dL_tick_333 (by decide) ?_
      refine E_iadd (pc := 335) O dL_tick_335 ?_
      refine E_iaload (pc := 336) O dL_tick_336 hf (fun v37 hf => ?_)
      refine E_iconst (pc := 337) O (1 : Int32) dL_tick_337 (by decide) ?_
      refine E_iadd (pc := 338) O dL_tick_338 ?_
      refine E_goto (pc := 339) O 343 dL_tick_339 (by decide) ?_
      exact E_sub (L' := [some (.ref x0), some (.ref x1), some (.ref x2), some (.ref x3), some (.ref x4), some (.int x5), some (.int x6), some (.int x7), some (.int x8), some (.int x9), none, none]) (And.intro rfl (And.intro rfl (And.intro rfl (And.intro rfl (And.intro rfl (And.intro rfl (And.intro rfl (And.intro rfl (And.intro rfl (And.intro rfl True.intro)))))))))) (t_b_L_tick_343 O Z _ hr187 h x0 x1 x2 x3 x4 x5 x6 x7 x8 x9 x1 (x7 + (6 : Int32)) (v37 + (1 : Int32)) hf)
  · refine E_iload (pc := 265) O dL_tick_265 rfl ?_
    refine E_if_eq (pc := 267) O 310 dL_tick_267 (by decide) hf (fun hf => ?_) (fun hf => ?_)
    · exact E_sub (L' := [some (.ref x0), some (.ref x1), some (.ref x2), some (.ref x3), some (.ref x4), some (.int x5), some (.int x6), some (.int x7), some (.int x8), some (.int x9), none, some (.int x11)]) (And.intro rfl (And.intro rfl (And.intro rfl (And.intro rfl (And.intro rfl (And.intro rfl (And.intro rfl (And.intro rfl (And.intro rfl (And.intro rfl (And.intro rfl True.intro))))))))))) (t_b_L_tick_310 O Z _ hr187 _ hr258 h x0 x1 x2 x3 x4 x5 x6 x7 x8 x9 x11 hf)
    · refine E_aload_n (pc := 270) O 1 dL_tick_270 rfl rfl ?_
      refine E_iload (pc := 271) O dL_tick_271 rfl ?_
      refine E_iaload (pc := 273) O dL_tick_273 hf (fun v38 hf => ?_)
      refine E_iload (pc := 274) O dL_tick_274 rfl ?_
      refine E_ishr (pc := 276) O dL_tick_276 ?_
      refine E_iconst (pc := 277) O (1 : Int32) dL_tick_277 (by decide) ?_
      refine E_iand (pc := 278) O dL_tick_278 ?_
      refine E_if_eq (pc := 279) O 306 dL_tick_279 (by decide) hf (fun hf => ?_) (fun hf => ?_)
      · exact E_sub (L' := [some (.ref x0), some (.ref x1), some (.ref x2), some (.ref x3), some (.ref x4), some (.int x5), some (.int x6), some (.int x7), some (.int x8), some (.int x9), none, some (.int x11)]) (And.intro rfl (And.intro rfl (And.intro rfl (And.intro rfl (And.intro rfl (And.intro rfl (And.intro rfl (And.intro rfl (And.intro rfl (And.intro rfl (And.intro rfl True.intro))))))))))) (t_b_L_tick_306 O Z _ hr187 _ hr258 h x0 x1 x2 x3 x4 x5 x6 x7 x8 x9 x11 hf)
      · refine E_iload (pc := 282) O dL_tick_282 rfl ?_
        refine E_iconst (pc := 284) O (3 : Int32) dL_tick_284 (by decide) ?_
        refine E_iload (pc := 285) O dL_tick_285 rfl ?_
        refine E_imul (pc := 287) O dL_tick_287 ?_
        refine E_ishr (pc := 288) O dL_tick_288 ?_
        refine E_bipush (pc := 289) O (7 : Int32) dL_tick_289 (by decide) ?_
        refine E_iand (pc := 291) O dL_tick_291 ?_
        refine E_iconst (pc := 292) O (3 : Int32) dL_tick_292 (by decide) ?_
        refine E_icmp_ne (pc := 293) O 310 dL_tick_293 (by decide) hf (fun hf => ?_) (fun hf => ?_)
        · exact E_sub (L' := [some (.ref x0), some (.ref x1), some (.ref x2), some (.ref x3), some (.ref x4), some (.int x5), some (.int x6), some (.int x7), some (.int x8), some (.int x9), none, some (.int x11)]) (And.intro rfl (And.intro rfl (And.intro rfl (And.intro rfl (And.intro rfl (And.intro rfl (And.intro rfl (And.intro rfl (And.intro rfl (And.intro rfl (And.intro rfl True.intro))))))))))) (t_b_L_tick_310 O Z _ hr187 _ hr258 h x0 x1 x2 x3 x4 x5 x6 x7 x8 x9 x11 hf)
        · refine E_iload (pc := 296) O dL_tick_296 rfl ?_
          refine E_aload_n (pc := 298) O 0 dL_tick_298 rfl rfl ?_
          refine E_aload_n (pc := 299) O 1 dL_tick_299 rfl rfl ?_
          refine E_callS_iP (pc := 300) (S := []) O [.int x11, .ref x0, .ref x1] CS_RailSequenceLaw_8 (fun r e => t_L_flag e) dL_tick_300 hf rfl ⟨(Nat.le_of_ble_eq_true rfl), (Nat.le_of_ble_eq_true rfl)⟩ ⟨(Nat.le_of_ble_eq_true rfl), (Nat.le_of_ble_eq_true rfl)⟩ (Nat.le_of_ble_eq_true rfl) (fun v39 hf => ?_)
          refine E_if_eq (pc := 303) O 310 dL_tick_303 (by decide) hf (fun hf => ?_) (fun hf => ?_)
          · exact E_sub (L' := [some (.ref x0), some (.ref x1), some (.ref x2), some (.ref x3), some (.ref x4), some (.int x5), some (.int x6), some (.int x7), some (.int x8), some (.int x9), none, some (.int x11)]) (And.intro rfl (And.intro rfl (And.intro rfl (And.intro rfl (And.intro rfl (And.intro rfl (And.intro rfl (And.intro rfl (And.intro rfl (And.intro rfl (And.intro rfl True.intro))))))))))) (t_b_L_tick_310 O Z _ hr187 _ hr258 h x0 x1 x2 x3 x4 x5 x6 x7 x8 x9 x11 hf)
          · exact E_sub (L' := [some (.ref x0), some (.ref x1), some (.ref x2), some (.ref x3), some (.ref x4), some (.int x5), some (.int x6), some (.int x7), some (.int x8), some (.int x9), none, some (.int x11)]) (And.intro rfl (And.intro rfl (And.intro rfl (And.intro rfl (And.intro rfl (And.intro rfl (And.intro rfl (And.intro rfl (And.intro rfl (And.intro rfl (And.intro rfl True.intro))))))))))) (t_b_L_tick_306 O Z _ hr187 _ hr258 h x0 x1 x2 x3 x4 x5 x6 x7 x8 x9 x11 hf)
theorem t_f_L_tick_258 {K : Cx} {fr : Bool} {out : MH} (O : Ok K yL_tick.cls cL_tick 12 (rmm 2 52 0 0)) (Z : Out K none fr none out) (rec187 : MH → Nat → Nat → Nat → Nat → Nat → Int32 → Int32 → Option MH) (hr187 : ∀ (h : MH) (x0 : Nat) (x1 : Nat) (x2 : Nat) (x3 : Nat) (x4 : Nat) (x5 : Int32) (x6 : Int32), rec187 h x0 x1 x2 x3 x4 x5 x6 = some out → EE K (fr, 0, 0) 187 [some (.ref x0), some (.ref x1), some (.ref x2), some (.ref x3), some (.ref x4), some (.int x5), some (.int x6), none, none, none, none, none] [] h) : ∀ (n : Nat) (h : MH) (x0 : Nat) (x1 : Nat) (x2 : Nat) (x3 : Nat) (x4 : Nat) (x5 : Int32) (x6 : Int32) (x7 : Int32) (x8 : Int32) (x9 : Int32) (x10 : Int32) (x11 : Int32), f_L_tick_258 rec187 n h x0 x1 x2 x3 x4 x5 x6 x7 x8 x9 x10 x11 = some out → EE K (fr, 0, 0) 258 [some (.ref x0), some (.ref x1), some (.ref x2), some (.ref x3), some (.ref x4), some (.int x5), some (.int x6), some (.int x7), some (.int x8), some (.int x9), some (.int x10), some (.int x11)] [] h := by
  intro n
  induction n with
  | zero => intro h x0 x1 x2 x3 x4 x5 x6 x7 x8 x9 x10 x11 hf; cases hf
  | succ n ih => intro h x0 x1 x2 x3 x4 x5 x6 x7 x8 x9 x10 x11 hf; exact t_b_L_tick_258 O Z _ hr187 _ ih h x0 x1 x2 x3 x4 x5 x6 x7 x8 x9 x10 x11 hf
set_option maxHeartbeats 4000000 in
set_option maxRecDepth 100000 in
theorem t_b_L_tick_253 {K : Cx} {fr : Bool} {out : MH} (O : Ok K yL_tick.cls cL_tick 12 (rmm 2 52 0 0)) (Z : Out K none fr none out) (rec187 : MH → Nat → Nat → Nat → Nat → Nat → Int32 → Int32 → Option MH) (hr187 : ∀ (h : MH) (x0 : Nat) (x1 : Nat) (x2 : Nat) (x3 : Nat) (x4 : Nat) (x5 : Int32) (x6 : Int32), rec187 h x0 x1 x2 x3 x4 x5 x6 = some out → EE K (fr, 0, 0) 187 [some (.ref x0), some (.ref x1), some (.ref x2), some (.ref x3), some (.ref x4), some (.int x5), some (.int x6), none, none, none, none, none] [] h) (h : MH) (x0 : Nat) (x1 : Nat) (x2 : Nat) (x3 : Nat) (x4 : Nat) (x5 : Int32) (x6 : Int32) (x7 : Int32) (x8 : Int32) (x9 : Int32) (s0 : Int32) (hf : b_L_tick_253 rec187 h x0 x1 x2 x3 x4 x5 x6 x7 x8 x9 s0 = some out) : EE K (fr, 0, 0) 253 [some (.ref x0), some (.ref x1), some (.ref x2), some (.ref x3), some (.ref x4), some (.int x5), some (.int x6), some (.int x7), some (.int x8), some (.int x9), none, none] [.int s0] h := by
  unfold b_L_tick_253 at hf
  refine E_istore (pc := 253) O [some (.ref x0), some (.ref x1), some (.ref x2), some (.ref x3), some (.ref x4), some (.int x5), some (.int x6), some (.int x7), some (.int x8), some (.int x9), some (.int s0), none] dL_tick_253 (by decide) rfl rfl ?_
  refine E_iconst (pc := 255) O (0 : Int32) dL_tick_255 (by decide) ?_
  refine E_istore (pc := 256) O [some (.ref x0), some (.ref x1), some (.ref x2), some (.ref x3), some (.ref x4), some (.int x5), some (.int x6), some (.int x7), some (.int x8), some (.int x9), some (.int s0), some (.int (0 : Int32))] dL_tick_256 (by decide) rfl rfl ?_
  exact t_f_L_tick_258 O Z _ hr187 FU h x0 x1 x2 x3 x4 x5 x6 x7 x8 x9 s0 (0 : Int32) hf
set_option maxHeartbeats 4000000 in
set_option maxRecDepth 100000 in
theorem t_b_L_tick_187 {K : Cx} {fr : Bool} {out : MH} (O : Ok K yL_tick.cls cL_tick 12 (rmm 2 52 0 0)) (Z : Out K none fr none out) (rec187 : MH → Nat → Nat → Nat → Nat → Nat → Int32 → Int32 → Option MH) (hr187 : ∀ (h : MH) (x0 : Nat) (x1 : Nat) (x2 : Nat) (x3 : Nat) (x4 : Nat) (x5 : Int32) (x6 : Int32), rec187 h x0 x1 x2 x3 x4 x5 x6 = some out → EE K (fr, 0, 0) 187 [some (.ref x0), some (.ref x1), some (.ref x2), some (.ref x3), some (.ref x4), some (.int x5), some (.int x6), none, none, none, none, none] [] h) (h : MH) (x0 : Nat) (x1 : Nat) (x2 : Nat) (x3 : Nat) (x4 : Nat) (x5 : Int32) (x6 : Int32) (hf : b_L_tick_187 rec187 h x0 x1 x2 x3 x4 x5 x6 = some out) : EE K (fr, 0, 0) 187 [some (.ref x0), some (.ref x1), some (.ref x2), some (.ref x3), some (.ref x4), some (.int x5), some (.int x6), none, none, none, none, none] [] h := by
  unfold b_L_tick_187 at hf
  refine E_iload (pc := 187) O dL_tick_187 rfl ?_
  refine E_aload (pc := 189) O dL_tick_189 rfl ?_
  refine E_iconst (pc := 191) O (0 : Int32) dL_tick_191 (by decide) ?_
  refine E_iaload (pc := 192) O dL_tick_192 hf (fun v40 hf => ?_)
  refine E_icmp_ge (pc := 193) O 537 dL_tick_193 (by decide) hf (fun hf => ?_) (fun hf => ?_)
  · refine E_iconst (pc := 537) O (0 : Int32) dL_tick_537 (by decide) ?_
    refine E_istore (pc := 538) O [some (.ref x0), some (.ref x1), some (.ref x2), some (.ref x3), some (.ref x4), some (.int x5), some (.int (0 : Int32)), none, none, none, none, none] dL_tick_538 (by decide) rfl rfl ?_
    exact E_sub (L' := [none, some (.ref x1), some (.ref x2), none, some (.ref x4), none, some (.int (0 : Int32)), none, none, none, none, none]) (And.intro rfl (And.intro rfl (And.intro rfl (And.intro rfl True.intro)))) (t_f_L_tick_540 O Z FU h x1 x2 x4 (0 : Int32) hf)
  · refine E_bipush (pc := 196) O (9 : Int32) dL_tick_196 (by decide) ?_
    refine E_iload (pc := 198) O dL_tick_198 rfl ?_
    refine E_imul (pc := 200) O dL_tick_200 ?_
    obtain ⟨v41, ev41, hf⟩ := ob hf
    have ev41 := os ev41
    rw [ev41]
    refine E_istore (pc := 201) O [some (.ref x0), some (.ref x1), some (.ref x2), some (.ref x3), some (.ref x4), some (.int x5), some (.int x6), some (.int v41), none, none, none, none] dL_tick_201 (by decide) rfl rfl ?_
    refine E_aload_n (pc := 203) O 1 dL_tick_203 rfl rfl ?_
    refine E_iload (pc := 204) O dL_tick_204 rfl ?_
    refine E_iconst (pc := 206) O (2 : Int32) dL_tick_206 (by decide) ?_
    refine E_iadd (pc := 207) O dL_tick_207 ?_
    refine E_iaload (pc := 208) O dL_tick_208 hf (fun v42 hf => ?_)
    refine E_istore (pc := 209) O [some (.ref x0), some (.ref x1), some (.ref x2), some (.ref x3), some (.ref x4), some (.int x5), some (.int x6), some (.int v41), some (.int v42), none, none, none] dL_tick_209 (by decide) rfl rfl ?_
    refine E_iload (pc := 211) O dL_tick_211 rfl ?_
    refine E_iload (pc := 213) O dL_tick_213 rfl ?_
    refine E_aload_n (pc := 215) O 0 dL_tick_215 rfl rfl ?_
    refine E_aload_n (pc := 216) O 1 dL_tick_216 rfl rfl ?_
    refine E_aload (pc := 217) O dL_tick_217 rfl ?_
    refine E_callS_iP (pc := 219) (S := []) O [.int x6, .int x5, .ref x0, .ref x1, .ref x4] CS_RailSequenceLaw_14 (fun r e => t_L_next e) dL_tick_219 hf rfl ⟨(Nat.le_of_ble_eq_true rfl), (Nat.le_of_ble_eq_true rfl)⟩ ⟨(Nat.le_of_ble_eq_true rfl), (Nat.le_of_ble_eq_true rfl)⟩ (Nat.le_of_ble_eq_true rfl) (fun v43 hf => ?_)
    refine E_istore (pc := 222) O [some (.ref x0), some (.ref x1), some (.ref x2), some (.ref x3), some (.ref x4), some (.int x5), some (.int x6), some (.int v41), some (.int v42), some (.int v43), none, none] dL_tick_222 (by decide) rfl rfl ?_
    refine E_iload (pc := 224) O dL_tick_224 rfl ?_
    refine E_iconst (pc := 226) O (1 : Int32) dL_tick_226 (by decide) ?_
    refine E_icmp_ne (pc := 227) O 344 dL_tick_227 (by decide) hf (fun hf => ?_) (fun hf => ?_)
    · exact t_b_L_tick_344 O Z _ hr187 h x0 x1 x2 x3 x4 x5 x6 v41 v42 v43 hf
    · refine E_iload (pc := 230) O dL_tick_230 rfl ?_
      refine E_if_ge (pc := 232) O 344 dL_tick_232 (by decide) hf (fun hf => ?_) (fun hf => ?_)
      · exact t_b_L_tick_344 O Z _ hr187 h x0 x1 x2 x3 x4 x5 x6 v41 v42 v43 hf
      · refine E_aload_n (pc := 235) O 1 dL_tick_235 rfl rfl ?_
        refine E_iload (pc := 236) O dL_tick_236 rfl ?_
        refine E_iconst (pc := 238) O (3 : Int32) dL_tick_238 (by decide) ?_
        refine E_iadd (pc := 239) O dL_tick_239 ?_
        refine E_iaload (pc := 240) O dL_tick_240 hf (fun v44 hf => ?_)
        refine E_aload (pc := 241) O dL_tick_241 rfl ?_
        refine E_iconst (pc := 243) O (1 : Int32) dL_tick_243 (by decide) ?_
        refine E_iaload (pc := 244) O dL_tick_244 hf (fun v45 hf => ?_)
        refine E_icmp_gt (pc := 245) O 252 dL_tick_245 (by decide) hf (fun hf => ?_) (fun hf => ?_)
        · refine E_iconst (pc := 252) O (0 : Int32) dL_tick_252 (by decide) ?_
          exact t_b_L_tick_253 O Z _ hr187 h x0 x1 x2 x3 x4 x5 x6 v41 v42 v43 (0 : Int32) hf
        · refine E_iconst (pc := 248) O (1 : Int32) dL_tick_248 (by decide) ?_
          refine E_goto (pc := 249) O 253 dL_tick_249 (by decide) ?_
          exact t_b_L_tick_253 O Z _ hr187 h x0 x1 x2 x3 x4 x5 x6 v41 v42 v43 (1 : Int32) hf
theorem t_f_L_tick_187 {K : Cx} {fr : Bool} {out : MH} (O : Ok K yL_tick.cls cL_tick 12 (rmm 2 52 0 0)) (Z : Out K none fr none out) : ∀ (n : Nat) (h : MH) (x0 : Nat) (x1 : Nat) (x2 : Nat) (x3 : Nat) (x4 : Nat) (x5 : Int32) (x6 : Int32), f_L_tick_187 n h x0 x1 x2 x3 x4 x5 x6 = some out → EE K (fr, 0, 0) 187 [some (.ref x0), some (.ref x1), some (.ref x2), some (.ref x3), some (.ref x4), some (.int x5), some (.int x6), none, none, none, none, none] [] h := by
  intro n
  induction n with
  | zero => intro h x0 x1 x2 x3 x4 x5 x6 hf; cases hf
  | succ n ih => intro h x0 x1 x2 x3 x4 x5 x6 hf; exact t_b_L_tick_187 O Z _ ih h x0 x1 x2 x3 x4 x5 x6 hf
set_option maxHeartbeats 4000000 in
set_option maxRecDepth 100000 in
theorem t_b_L_tick_6 {K : Cx} {fr : Bool} {out : MH} (O : Ok K yL_tick.cls cL_tick 12 (rmm 2 52 0 0)) (Z : Out K none fr none out) (rec6 : MH → Nat → Nat → Nat → Nat → Nat → Int32 → Int32 → Option MH) (hr6 : ∀ (h : MH) (x0 : Nat) (x1 : Nat) (x2 : Nat) (x3 : Nat) (x4 : Nat) (x5 : Int32) (x6 : Int32), rec6 h x0 x1 x2 x3 x4 x5 x6 = some out → EE K (fr, 0, 0) 6 [some (.ref x0), some (.ref x1), some (.ref x2), some (.ref x3), some (.ref x4), some (.int x5), some (.int x6), none, none, none, none, none] [] h) (h : MH) (x0 : Nat) (x1 : Nat) (x2 : Nat) (x3 : Nat) (x4 : Nat) (x5 : Int32) (x6 : Int32) (hf : b_L_tick_6 rec6 h x0 x1 x2 x3 x4 x5 x6 = some out) : EE K (fr, 0, 0) 6 [some (.ref x0), some (.ref x1), some (.ref x2), some (.ref x3), some (.ref x4), some (.int x5), some (.int x6), none, none, none, none, none] [] h := by
  unfold b_L_tick_6 at hf
  refine E_iload (pc := 6) O dL_tick_6 rfl ?_
  refine E_aload (pc := 8) O dL_tick_8 rfl ?_
  refine E_iconst (pc := 10) O (0 : Int32) dL_tick_10 (by decide) ?_
  refine E_iaload (pc := 11) O dL_tick_11 hf (fun v46 hf => ?_)
  refine E_icmp_ge (pc := 12) O 184 dL_tick_12 (by decide) hf (fun hf => ?_) (fun hf => ?_)
  · refine E_iconst (pc := 184) O (0 : Int32) dL_tick_184 (by decide) ?_
    refine E_istore (pc := 185) O [some (.ref x0), some (.ref x1), some (.ref x2), some (.ref x3), some (.ref x4), some (.int x5), some (.int (0 : Int32)), none, none, none, none, none] dL_tick_185 (by decide) rfl rfl ?_
    exact t_f_L_tick_187 O Z FU h x0 x1 x2 x3 x4 x5 (0 : Int32) hf
  · refine E_bipush (pc := 15) O (9 : Int32) dL_tick_15 (by decide) ?_
    refine E_iload (pc := 17) O dL_tick_17 rfl ?_
    refine E_imul (pc := 19) O dL_tick_19 ?_
    obtain ⟨v47, ev47, hf⟩ := ob hf
    have ev47 := os ev47
    rw [ev47]
    refine E_istore (pc := 20) O [some (.ref x0), some (.ref x1), some (.ref x2), some (.ref x3), some (.ref x4), some (.int x5), some (.int x6), some (.int v47), none, none, none, none] dL_tick_20 (by decide) rfl rfl ?_
    refine E_aload_n (pc := 22) O 1 dL_tick_22 rfl rfl ?_
    refine E_iload (pc := 23) O dL_tick_23 rfl ?_
    refine E_iconst (pc := 25) O (2 : Int32) dL_tick_25 (by decide) ?_
    refine E_iadd (pc := 26) O dL_tick_26 ?_
    refine E_iaload (pc := 27) O dL_tick_27 hf (fun v48 hf => ?_)
    refine E_iconst (pc := 28) O (2 : Int32) dL_tick_28 (by decide) ?_
    refine E_icmp_eq (pc := 29) O 42 dL_tick_29 (by decide) hf (fun hf => ?_) (fun hf => ?_)
    · exact t_b_L_tick_42 O Z _ hr6 h x0 x1 x2 x3 x4 x5 x6 v47 hf
    · refine E_aload_n (pc := 32) O 1 dL_tick_32 rfl rfl ?_
      refine E_iload (pc := 33) O dL_tick_33 rfl ?_
      refine E_iconst (pc := 35) O (2 : Int32) dL_tick_35 (by decide) ?_
      refine E_iadd (pc := 36) O dL_tick_36 ?_
      refine E_iaload (pc := 37) O dL_tick_37 hf (fun v49 hf => ?_)
      refine E_iconst (pc := 38) O (3 : Int32) dL_tick_38 (by decide) ?_
      refine E_icmp_ne (pc := 39) O 55 dL_tick_39 (by decide) hf (fun hf => ?_) (fun hf => ?_)
      · exact t_b_L_tick_55 O Z _ hr6 h x0 x1 x2 x3 x4 x5 x6 v47 hf
      · exact t_b_L_tick_42 O Z _ hr6 h x0 x1 x2 x3 x4 x5 x6 v47 hf
theorem t_f_L_tick_6 {K : Cx} {fr : Bool} {out : MH} (O : Ok K yL_tick.cls cL_tick 12 (rmm 2 52 0 0)) (Z : Out K none fr none out) : ∀ (n : Nat) (h : MH) (x0 : Nat) (x1 : Nat) (x2 : Nat) (x3 : Nat) (x4 : Nat) (x5 : Int32) (x6 : Int32), f_L_tick_6 n h x0 x1 x2 x3 x4 x5 x6 = some out → EE K (fr, 0, 0) 6 [some (.ref x0), some (.ref x1), some (.ref x2), some (.ref x3), some (.ref x4), some (.int x5), some (.int x6), none, none, none, none, none] [] h := by
  intro n
  induction n with
  | zero => intro h x0 x1 x2 x3 x4 x5 x6 hf; cases hf
  | succ n ih => intro h x0 x1 x2 x3 x4 x5 x6 hf; exact t_b_L_tick_6 O Z _ ih h x0 x1 x2 x3 x4 x5 x6 hf
set_option maxHeartbeats 4000000 in
set_option maxRecDepth 100000 in
theorem t_L_tick {g : Gx} {fr : Bool} {h : MH} {x0 x1 x2 x3 x4} {out : MH} (hf : f_L_tick h x0 x1 x2 x3 x4 = some out) : MM g yL_tick cL_tick 12 none 2 52 0 0 fr fr [.ref x0, .ref x1, .ref x2, .ref x3, .ref x4] h none out := by
  unfold f_L_tick at hf
  refine MM_of (L := [some (.ref x0), some (.ref x1), some (.ref x2), some (.ref x3), some (.ref x4), none, none, none, none, none, none, none]) (by decide) (Nat.le_of_ble_eq_true rfl) rfl (fun K hK O Z hn => ?_)
  refine E_iconst (pc := 0) O (0 : Int32) dL_tick_0 (by decide) ?_
  refine E_istore (pc := 1) O [some (.ref x0), some (.ref x1), some (.ref x2), some (.ref x3), some (.ref x4), some (.int (0 : Int32)), none, none, none, none, none, none] dL_tick_1 (by decide) rfl rfl ?_
  refine E_iconst (pc := 3) O (0 : Int32) dL_tick_3 (by decide) ?_
  refine E_istore (pc := 4) O [some (.ref x0), some (.ref x1), some (.ref x2), some (.ref x3), some (.ref x4), some (.int (0 : Int32)), some (.int (0 : Int32)), none, none, none, none, none] dL_tick_4 (by decide) rfl rfl ?_
  exact t_f_L_tick_6 O Z FU h x0 x1 x2 x3 x4 (0 : Int32) (0 : Int32) hf
set_option maxHeartbeats 4000000 in
set_option maxRecDepth 100000 in
theorem t_b_L_mask_37 {K : Cx} {fr : Bool} {out : Int32} {h : MH} (O : Ok K yL_mask.cls cL_mask 6 (rmm 0 0 0 0)) (Z : Out K (some .int) fr (some (.int out)) h) (rec6 : Int32 → Int32 → Nat → Nat → Int32 → Int32 → Option Int32) (hr6 : ∀ (x0 : Int32) (x1 : Int32) (x2 : Nat) (x3 : Nat) (x4 : Int32) (x5 : Int32), rec6 x0 x1 x2 x3 x4 x5 = some out → EE K (fr, 0, 0) 6 [some (.int x0), some (.int x1), some (.ref x2), some (.ref x3), some (.int x4), some (.int x5)] [] h) (x0 : Int32) (x1 : Int32) (x2 : Nat) (x3 : Nat) (x5 : Int32) (s0 : Int32) (s1 : Int32) (hf : b_L_mask_37 h rec6 x0 x1 x2 x3 x5 s0 s1 = some out) : EE K (fr, 0, 0) 37 [some (.int x0), some (.int x1), some (.ref x2), some (.ref x3), none, some (.int x5)] [.int s1, .int s0] h := by
  unfold b_L_mask_37 at hf
  refine E_ior (pc := 37) O dL_mask_37 ?_
  obtain ⟨v1, ev1, hf⟩ := ob hf
  have ev1 := os ev1
  rw [ev1]
  refine E_istore (pc := 38) O [some (.int x0), some (.int x1), some (.ref x2), some (.ref x3), some (.int v1), some (.int x5)] dL_mask_38 (by decide) rfl rfl ?_
  refine E_iinc (pc := 40) O (1 : Int32) [some (.int x0), some (.int x1), some (.ref x2), some (.ref x3), some (.int v1), some (.int (x5 + (1 : Int32)))] dL_mask_40 rfl (by decide) rfl (by decide) rfl ?_
  refine E_goto (pc := 43) O 6 dL_mask_43 (by decide) ?_
  exact hr6 x0 x1 x2 x3 v1 (x5 + (1 : Int32)) hf
set_option maxHeartbeats 4000000 in
set_option maxRecDepth 100000 in
theorem t_b_L_mask_6 {K : Cx} {fr : Bool} {out : Int32} {h : MH} (O : Ok K yL_mask.cls cL_mask 6 (rmm 0 0 0 0)) (Z : Out K (some .int) fr (some (.int out)) h) (rec6 : Int32 → Int32 → Nat → Nat → Int32 → Int32 → Option Int32) (hr6 : ∀ (x0 : Int32) (x1 : Int32) (x2 : Nat) (x3 : Nat) (x4 : Int32) (x5 : Int32), rec6 x0 x1 x2 x3 x4 x5 = some out → EE K (fr, 0, 0) 6 [some (.int x0), some (.int x1), some (.ref x2), some (.ref x3), some (.int x4), some (.int x5)] [] h) (x0 : Int32) (x1 : Int32) (x2 : Nat) (x3 : Nat) (x4 : Int32) (x5 : Int32) (hf : b_L_mask_6 h rec6 x0 x1 x2 x3 x4 x5 = some out) : EE K (fr, 0, 0) 6 [some (.int x0), some (.int x1), some (.ref x2), some (.ref x3), some (.int x4), some (.int x5)] [] h := by
  unfold b_L_mask_6 at hf
  refine E_iload (pc := 6) O dL_mask_6 rfl ?_
  refine E_aload_n (pc := 8) O 3 dL_mask_8 rfl rfl ?_
  refine E_iconst (pc := 9) O (0 : Int32) dL_mask_9 (by decide) ?_
  refine E_iaload (pc := 10) O dL_mask_10 hf (fun v2 hf => ?_)
  refine E_icmp_ge (pc := 11) O 46 dL_mask_11 (by decide) hf (fun hf => ?_) (fun hf => ?_)
  · refine E_iload (pc := 46) O dL_mask_46 rfl ?_
    exact E_iretP (pc := 48) O Z hf ⟨(Nat.le_of_ble_eq_true rfl), (Nat.le_of_ble_eq_true rfl)⟩ dL_mask_48
  · refine E_iload (pc := 14) O dL_mask_14 rfl ?_
    refine E_aload_n (pc := 16) O 2 dL_mask_16 rfl rfl ?_
    refine E_bipush (pc := 17) O (9 : Int32) dL_mask_17 (by decide) ?_
    refine E_iload (pc := 19) O dL_mask_19 rfl ?_
    refine E_imul (pc := 21) O dL_mask_21 ?_
    refine E_iload_n (pc := 22) O 0 dL_mask_22 rfl rfl ?_
    refine E_iadd (pc := 23) O dL_mask_23 ?_
    refine E_iaload (pc := 24) O dL_mask_24 hf (fun v3 hf => ?_)
    refine E_iload_n (pc := 25) O 1 dL_mask_25 rfl rfl ?_
    refine E_icmp_ne (pc := 26) O 36 dL_mask_26 (by decide) hf (fun hf => ?_) (fun hf => ?_)
    · refine E_iconst (pc := 36) O (0 : Int32) dL_mask_36 (by decide) ?_
      exact E_sub (L' := [some (.int x0), some (.int x1), some (.ref x2), some (.ref x3), none, some (.int x5)]) (And.intro rfl (And.intro rfl (And.intro rfl (And.intro rfl (And.intro rfl True.intro))))) (t_b_L_mask_37 O Z _ hr6 x0 x1 x2 x3 x5 x4 (0 : Int32) hf)
    · refine E_iconst (pc := 29) O (1 : Int32) dL_mask_29 (by decide) ?_
      refine E_iload (pc := 30) O dL_mask_30 rfl ?_
      refine E_ishl (pc := 32) O dL_mask_32 ?_
      refine E_goto (pc := 33) O 37 dL_mask_33 (by decide) ?_
      exact E_sub (L' := [some (.int x0), some (.int x1), some (.ref x2), some (.ref x3), none, some (.int x5)]) (And.intro rfl (And.intro rfl (And.intro rfl (And.intro rfl (And.intro rfl True.intro))))) (t_b_L_mask_37 O Z _ hr6 x0 x1 x2 x3 x5 x4 ((1 : Int32) <<< (x5 &&& 31)) hf)
theorem t_f_L_mask_6 {K : Cx} {fr : Bool} {out : Int32} {h : MH} (O : Ok K yL_mask.cls cL_mask 6 (rmm 0 0 0 0)) (Z : Out K (some .int) fr (some (.int out)) h) : ∀ (n : Nat) (x0 : Int32) (x1 : Int32) (x2 : Nat) (x3 : Nat) (x4 : Int32) (x5 : Int32), f_L_mask_6 h n x0 x1 x2 x3 x4 x5 = some out → EE K (fr, 0, 0) 6 [some (.int x0), some (.int x1), some (.ref x2), some (.ref x3), some (.int x4), some (.int x5)] [] h := by
  intro n
  induction n with
  | zero => intro x0 x1 x2 x3 x4 x5 hf; cases hf
  | succ n ih => intro x0 x1 x2 x3 x4 x5 hf; exact t_b_L_mask_6 O Z _ ih x0 x1 x2 x3 x4 x5 hf
set_option maxHeartbeats 4000000 in
set_option maxRecDepth 100000 in
theorem t_L_mask {g : Gx} {fr : Bool} {h : MH} {x0 x1 x2 x3} {out : Int32} (hf : f_L_mask h x0 x1 x2 x3 = some out) : MM g yL_mask cL_mask 6 (some .int) 0 0 0 0 fr fr [.int x0, .int x1, .ref x2, .ref x3] h (some (.int out)) h := by
  unfold f_L_mask at hf
  refine MM_of (L := [some (.int x0), some (.int x1), some (.ref x2), some (.ref x3), none, none]) (by decide) (Nat.le_of_ble_eq_true rfl) rfl (fun K hK O Z hn => ?_)
  refine E_iconst (pc := 0) O (0 : Int32) dL_mask_0 (by decide) ?_
  refine E_istore (pc := 1) O [some (.int x0), some (.int x1), some (.ref x2), some (.ref x3), some (.int (0 : Int32)), none] dL_mask_1 (by decide) rfl rfl ?_
  refine E_iconst (pc := 3) O (0 : Int32) dL_mask_3 (by decide) ?_
  refine E_istore (pc := 4) O [some (.int x0), some (.int x1), some (.ref x2), some (.ref x3), some (.int (0 : Int32)), some (.int (0 : Int32))] dL_mask_4 (by decide) rfl rfl ?_
  exact t_f_L_mask_6 O Z FU x0 x1 x2 x3 (0 : Int32) (0 : Int32) hf
set_option maxHeartbeats 4000000 in
set_option maxRecDepth 100000 in
theorem t_b_L_closed_78 {K : Cx} {fr : Bool} {out : Int32} {h : MH} (O : Ok K yL_closed.cls cL_closed 7 (rmm 0 0 0 0)) (Z : Out K (some .int) fr (some (.int out)) h) (rec6 : Int32 → Nat → Nat → Int32 → Int32 → Option Int32) (hr6 : ∀ (x1 : Int32) (x2 : Nat) (x3 : Nat) (x4 : Int32) (x5 : Int32), rec6 x1 x2 x3 x4 x5 = some out → EE K (fr, 0, 0) 6 [none, some (.int x1), some (.ref x2), some (.ref x3), some (.int x4), some (.int x5), none] [] h) (rec17 : Int32 → Nat → Nat → Int32 → Int32 → Int32 → Option Int32) (hr17 : ∀ (x1 : Int32) (x2 : Nat) (x3 : Nat) (x4 : Int32) (x5 : Int32) (x6 : Int32), rec17 x1 x2 x3 x4 x5 x6 = some out → EE K (fr, 0, 0) 17 [none, some (.int x1), some (.ref x2), some (.ref x3), some (.int x4), some (.int x5), some (.int x6)] [] h) (x1 : Int32) (x2 : Nat) (x3 : Nat) (x4 : Int32) (x5 : Int32) (x6 : Int32) (hf : b_L_closed_78 h rec6 rec17 x1 x2 x3 x4 x5 x6 = some out) : EE K (fr, 0, 0) 78 [none, some (.int x1), some (.ref x2), some (.ref x3), some (.int x4), some (.int x5), some (.int x6)] [] h := by
  unfold b_L_closed_78 at hf
  refine E_iinc (pc := 78) O (1 : Int32) [none, some (.int x1), some (.ref x2), some (.ref x3), some (.int x4), some (.int x5), some (.int (x6 + (1 : Int32)))] dL_closed_78 rfl (by decide) rfl (by decide) rfl ?_
  refine E_goto (pc := 81) O 17 dL_closed_81 (by decide) ?_
  exact hr17 x1 x2 x3 x4 x5 (x6 + (1 : Int32)) hf
set_option maxHeartbeats 4000000 in
set_option maxRecDepth 100000 in
theorem t_b_L_closed_51 {K : Cx} {fr : Bool} {out : Int32} {h : MH} (O : Ok K yL_closed.cls cL_closed 7 (rmm 0 0 0 0)) (Z : Out K (some .int) fr (some (.int out)) h) (rec6 : Int32 → Nat → Nat → Int32 → Int32 → Option Int32) (hr6 : ∀ (x1 : Int32) (x2 : Nat) (x3 : Nat) (x4 : Int32) (x5 : Int32), rec6 x1 x2 x3 x4 x5 = some out → EE K (fr, 0, 0) 6 [none, some (.int x1), some (.ref x2), some (.ref x3), some (.int x4), some (.int x5), none] [] h) (rec17 : Int32 → Nat → Nat → Int32 → Int32 → Int32 → Option Int32) (hr17 : ∀ (x1 : Int32) (x2 : Nat) (x3 : Nat) (x4 : Int32) (x5 : Int32) (x6 : Int32), rec17 x1 x2 x3 x4 x5 x6 = some out → EE K (fr, 0, 0) 17 [none, some (.int x1), some (.ref x2), some (.ref x3), some (.int x4), some (.int x5), some (.int x6)] [] h) (x1 : Int32) (x2 : Nat) (x3 : Nat) (x4 : Int32) (x5 : Int32) (x6 : Int32) (hf : b_L_closed_51 h rec6 rec17 x1 x2 x3 x4 x5 x6 = some out) : EE K (fr, 0, 0) 51 [none, some (.int x1), some (.ref x2), some (.ref x3), some (.int x4), some (.int x5), some (.int x6)] [] h := by
  unfold b_L_closed_51 at hf
  refine E_iload_n (pc := 51) O 1 dL_closed_51 rfl rfl ?_
  refine E_if_ne (pc := 52) O 78 dL_closed_52 (by decide) hf (fun hf => ?_) (fun hf => ?_)
  · exact t_b_L_closed_78 O Z _ hr6 _ hr17 x1 x2 x3 x4 x5 x6 hf
  · refine E_iload (pc := 55) O dL_closed_55 rfl ?_
    refine E_iload (pc := 57) O dL_closed_57 rfl ?_
    refine E_ishr (pc := 59) O dL_closed_59 ?_
    refine E_iconst (pc := 60) O (1 : Int32) dL_closed_60 (by decide) ?_
    refine E_iand (pc := 61) O dL_closed_61 ?_
    refine E_iconst (pc := 62) O (1 : Int32) dL_closed_62 (by decide) ?_
    refine E_icmp_ne (pc := 63) O 78 dL_closed_63 (by decide) hf (fun hf => ?_) (fun hf => ?_)
    · exact t_b_L_closed_78 O Z _ hr6 _ hr17 x1 x2 x3 x4 x5 x6 hf
    · refine E_iload (pc := 66) O dL_closed_66 rfl ?_
      refine E_aload_n (pc := 68) O 2 dL_closed_68 rfl rfl ?_
      refine E_bipush (pc := 69) O (9 : Int32) dL_closed_69 (by decide) ?_
      refine E_iload (pc := 71) O dL_closed_71 rfl ?_
      refine E_imul (pc := 73) O dL_closed_73 ?_
      refine E_iaload (pc := 74) O dL_closed_74 hf (fun v1 hf => ?_)
      refine E_ior (pc := 75) O dL_closed_75 ?_
      obtain ⟨v2, ev2, hf⟩ := ob hf
      have ev2 := os ev2
      rw [ev2]
      refine E_istore (pc := 76) O [none, some (.int x1), some (.ref x2), some (.ref x3), some (.int v2), some (.int x5), some (.int x6)] dL_closed_76 (by decide) rfl rfl ?_
      exact t_b_L_closed_78 O Z _ hr6 _ hr17 x1 x2 x3 v2 x5 x6 hf
set_option maxHeartbeats 4000000 in
set_option maxRecDepth 100000 in
theorem t_b_L_closed_17 {K : Cx} {fr : Bool} {out : Int32} {h : MH} (O : Ok K yL_closed.cls cL_closed 7 (rmm 0 0 0 0)) (Z : Out K (some .int) fr (some (.int out)) h) (rec6 : Int32 → Nat → Nat → Int32 → Int32 → Option Int32) (hr6 : ∀ (x1 : Int32) (x2 : Nat) (x3 : Nat) (x4 : Int32) (x5 : Int32), rec6 x1 x2 x3 x4 x5 = some out → EE K (fr, 0, 0) 6 [none, some (.int x1), some (.ref x2), some (.ref x3), some (.int x4), some (.int x5), none] [] h) (rec17 : Int32 → Nat → Nat → Int32 → Int32 → Int32 → Option Int32) (hr17 : ∀ (x1 : Int32) (x2 : Nat) (x3 : Nat) (x4 : Int32) (x5 : Int32) (x6 : Int32), rec17 x1 x2 x3 x4 x5 x6 = some out → EE K (fr, 0, 0) 17 [none, some (.int x1), some (.ref x2), some (.ref x3), some (.int x4), some (.int x5), some (.int x6)] [] h) (x1 : Int32) (x2 : Nat) (x3 : Nat) (x4 : Int32) (x5 : Int32) (x6 : Int32) (hf : b_L_closed_17 h rec6 rec17 x1 x2 x3 x4 x5 x6 = some out) : EE K (fr, 0, 0) 17 [none, some (.int x1), some (.ref x2), some (.ref x3), some (.int x4), some (.int x5), some (.int x6)] [] h := by
  unfold b_L_closed_17 at hf
  refine E_iload (pc := 17) O dL_closed_17 rfl ?_
  refine E_aload_n (pc := 19) O 3 dL_closed_19 rfl rfl ?_
  refine E_iconst (pc := 20) O (0 : Int32) dL_closed_20 (by decide) ?_
  refine E_iaload (pc := 21) O dL_closed_21 hf (fun v3 hf => ?_)
  refine E_icmp_ge (pc := 22) O 84 dL_closed_22 (by decide) hf (fun hf => ?_) (fun hf => ?_)
  · refine E_iinc (pc := 84) O (1 : Int32) [none, some (.int x1), some (.ref x2), some (.ref x3), some (.int x4), some (.int (x5 + (1 : Int32))), some (.int x6)] dL_closed_84 rfl (by decide) rfl (by decide) rfl ?_
    refine E_goto (pc := 87) O 6 dL_closed_87 (by decide) ?_
    exact E_sub (L' := [none, some (.int x1), some (.ref x2), some (.ref x3), some (.int x4), some (.int (x5 + (1 : Int32))), none]) (And.intro rfl (And.intro rfl (And.intro rfl (And.intro rfl (And.intro rfl True.intro))))) (hr6 x1 x2 x3 x4 (x5 + (1 : Int32)) hf)
  · refine E_iload_n (pc := 25) O 1 dL_closed_25 rfl rfl ?_
    refine E_if_eq (pc := 26) O 51 dL_closed_26 (by decide) hf (fun hf => ?_) (fun hf => ?_)
    · exact t_b_L_closed_51 O Z _ hr6 _ hr17 x1 x2 x3 x4 x5 x6 hf
    · refine E_aload_n (pc := 29) O 2 dL_closed_29 rfl rfl ?_
      refine E_bipush (pc := 30) O (9 : Int32) dL_closed_30 (by decide) ?_
      refine E_iload (pc := 32) O dL_closed_32 rfl ?_
      refine E_imul (pc := 34) O dL_closed_34 ?_
      refine E_iaload (pc := 35) O dL_closed_35 hf (fun v4 hf => ?_)
      refine E_iload (pc := 36) O dL_closed_36 rfl ?_
      refine E_iand (pc := 38) O dL_closed_38 ?_
      refine E_if_eq (pc := 39) O 51 dL_closed_39 (by decide) hf (fun hf => ?_) (fun hf => ?_)
      · exact t_b_L_closed_51 O Z _ hr6 _ hr17 x1 x2 x3 x4 x5 x6 hf
      · refine E_iload (pc := 42) O dL_closed_42 rfl ?_
        refine E_iconst (pc := 44) O (1 : Int32) dL_closed_44 (by decide) ?_
        refine E_iload (pc := 45) O dL_closed_45 rfl ?_
        refine E_ishl (pc := 47) O dL_closed_47 ?_
        refine E_ior (pc := 48) O dL_closed_48 ?_
        obtain ⟨v5, ev5, hf⟩ := ob hf
        have ev5 := os ev5
        rw [ev5]
        refine E_istore (pc := 49) O [none, some (.int x1), some (.ref x2), some (.ref x3), some (.int v5), some (.int x5), some (.int x6)] dL_closed_49 (by decide) rfl rfl ?_
        exact t_b_L_closed_51 O Z _ hr6 _ hr17 x1 x2 x3 v5 x5 x6 hf
theorem t_f_L_closed_17 {K : Cx} {fr : Bool} {out : Int32} {h : MH} (O : Ok K yL_closed.cls cL_closed 7 (rmm 0 0 0 0)) (Z : Out K (some .int) fr (some (.int out)) h) (rec6 : Int32 → Nat → Nat → Int32 → Int32 → Option Int32) (hr6 : ∀ (x1 : Int32) (x2 : Nat) (x3 : Nat) (x4 : Int32) (x5 : Int32), rec6 x1 x2 x3 x4 x5 = some out → EE K (fr, 0, 0) 6 [none, some (.int x1), some (.ref x2), some (.ref x3), some (.int x4), some (.int x5), none] [] h) : ∀ (n : Nat) (x1 : Int32) (x2 : Nat) (x3 : Nat) (x4 : Int32) (x5 : Int32) (x6 : Int32), f_L_closed_17 h rec6 n x1 x2 x3 x4 x5 x6 = some out → EE K (fr, 0, 0) 17 [none, some (.int x1), some (.ref x2), some (.ref x3), some (.int x4), some (.int x5), some (.int x6)] [] h := by
  intro n
  induction n with
  | zero => intro x1 x2 x3 x4 x5 x6 hf; cases hf
  | succ n ih => intro x1 x2 x3 x4 x5 x6 hf; exact t_b_L_closed_17 O Z _ hr6 _ ih x1 x2 x3 x4 x5 x6 hf
set_option maxHeartbeats 4000000 in
set_option maxRecDepth 100000 in
theorem t_b_L_closed_6 {K : Cx} {fr : Bool} {out : Int32} {h : MH} (O : Ok K yL_closed.cls cL_closed 7 (rmm 0 0 0 0)) (Z : Out K (some .int) fr (some (.int out)) h) (rec6 : Int32 → Nat → Nat → Int32 → Int32 → Option Int32) (hr6 : ∀ (x1 : Int32) (x2 : Nat) (x3 : Nat) (x4 : Int32) (x5 : Int32), rec6 x1 x2 x3 x4 x5 = some out → EE K (fr, 0, 0) 6 [none, some (.int x1), some (.ref x2), some (.ref x3), some (.int x4), some (.int x5), none] [] h) (x1 : Int32) (x2 : Nat) (x3 : Nat) (x4 : Int32) (x5 : Int32) (hf : b_L_closed_6 h rec6 x1 x2 x3 x4 x5 = some out) : EE K (fr, 0, 0) 6 [none, some (.int x1), some (.ref x2), some (.ref x3), some (.int x4), some (.int x5), none] [] h := by
  unfold b_L_closed_6 at hf
  refine E_iload (pc := 6) O dL_closed_6 rfl ?_
  refine E_aload_n (pc := 8) O 3 dL_closed_8 rfl rfl ?_
  refine E_iconst (pc := 9) O (0 : Int32) dL_closed_9 (by decide) ?_
  refine E_iaload (pc := 10) O dL_closed_10 hf (fun v6 hf => ?_)
  refine E_icmp_ge (pc := 11) O 90 dL_closed_11 (by decide) hf (fun hf => ?_) (fun hf => ?_)
  · refine E_iload (pc := 90) O dL_closed_90 rfl ?_
    exact E_iretP (pc := 92) O Z hf ⟨(Nat.le_of_ble_eq_true rfl), (Nat.le_of_ble_eq_true rfl)⟩ dL_closed_92
  · refine E_iconst (pc := 14) O (0 : Int32) dL_closed_14 (by decide) ?_
    refine E_istore (pc := 15) O [none, some (.int x1), some (.ref x2), some (.ref x3), some (.int x4), some (.int x5), some (.int (0 : Int32))] dL_closed_15 (by decide) rfl rfl ?_
    exact t_f_L_closed_17 O Z _ hr6 FU x1 x2 x3 x4 x5 (0 : Int32) hf
theorem t_f_L_closed_6 {K : Cx} {fr : Bool} {out : Int32} {h : MH} (O : Ok K yL_closed.cls cL_closed 7 (rmm 0 0 0 0)) (Z : Out K (some .int) fr (some (.int out)) h) : ∀ (n : Nat) (x1 : Int32) (x2 : Nat) (x3 : Nat) (x4 : Int32) (x5 : Int32), f_L_closed_6 h n x1 x2 x3 x4 x5 = some out → EE K (fr, 0, 0) 6 [none, some (.int x1), some (.ref x2), some (.ref x3), some (.int x4), some (.int x5), none] [] h := by
  intro n
  induction n with
  | zero => intro x1 x2 x3 x4 x5 hf; cases hf
  | succ n ih => intro x1 x2 x3 x4 x5 hf; exact t_b_L_closed_6 O Z _ ih x1 x2 x3 x4 x5 hf
set_option maxHeartbeats 4000000 in
set_option maxRecDepth 100000 in
theorem t_L_closed {g : Gx} {fr : Bool} {h : MH} {x0 x1 x2 x3} {out : Int32} (hf : f_L_closed h x0 x1 x2 x3 = some out) : MM g yL_closed cL_closed 7 (some .int) 0 0 0 0 fr fr [.int x0, .int x1, .ref x2, .ref x3] h (some (.int out)) h := by
  unfold f_L_closed at hf
  refine MM_of (L := [some (.int x0), some (.int x1), some (.ref x2), some (.ref x3), none, none, none]) (by decide) (Nat.le_of_ble_eq_true rfl) rfl (fun K hK O Z hn => ?_)
  refine E_iload_n (pc := 0) O 0 dL_closed_0 rfl rfl ?_
  refine E_istore (pc := 1) O [some (.int x0), some (.int x1), some (.ref x2), some (.ref x3), some (.int x0), none, none] dL_closed_1 (by decide) rfl rfl ?_
  refine E_iconst (pc := 3) O (0 : Int32) dL_closed_3 (by decide) ?_
  refine E_istore (pc := 4) O [some (.int x0), some (.int x1), some (.ref x2), some (.ref x3), some (.int x0), some (.int (0 : Int32)), none] dL_closed_4 (by decide) rfl rfl ?_
  exact E_sub (L' := [none, some (.int x1), some (.ref x2), some (.ref x3), some (.int x0), some (.int (0 : Int32)), none]) (And.intro rfl (And.intro rfl (And.intro rfl (And.intro rfl (And.intro rfl True.intro))))) (t_f_L_closed_6 O Z FU x1 x2 x3 x0 (0 : Int32) hf)
set_option maxHeartbeats 4000000 in
set_option maxRecDepth 100000 in
theorem t_b_L_patience_56 {K : Cx} {fr : Bool} {out : Int32} {h : MH} (O : Ok K yL_patience.cls cL_patience 4 (rmm 0 0 0 0)) (Z : Out K (some .int) fr (some (.int out)) h) (s0 : Int32) (hf : b_L_patience_56 h s0 = some out) : EE K (fr, 0, 0) 56 [none, none, none, none] [.int s0] h := by
  unfold b_L_patience_56 at hf
  exact E_iretP (pc := 56) O Z hf ⟨(Nat.le_of_ble_eq_true rfl), (Nat.le_of_ble_eq_true rfl)⟩ dL_patience_56
set_option maxHeartbeats 4000000 in
set_option maxRecDepth 100000 in
theorem t_L_patience {g : Gx} {fr : Bool} {h : MH} {x0 x1} {out : Int32} (hf : f_L_patience h x0 x1 = some out) : MM g yL_patience cL_patience 4 (some .int) 0 0 0 0 fr fr [.int x0, .ref x1] h (some (.int out)) h := by
  unfold f_L_patience at hf
  refine MM_of (L := [some (.int x0), some (.ref x1), none, none]) (by decide) (Nat.le_of_ble_eq_true rfl) rfl (fun K hK O Z hn => ?_)
  refine E_aload_n (pc := 0) O 1 dL_patience_0 rfl rfl ?_
  refine E_bipush (pc := 1) O (7 : Int32) dL_patience_1 (by decide) ?_
  refine E_iload_n (pc := 3) O 0 dL_patience_3 rfl rfl ?_
  refine E_imul (pc := 4) O dL_patience_4 ?_
  refine E_iaload (pc := 5) O dL_patience_5 hf (fun v1 hf => ?_)
  refine E_aload_n (pc := 6) O 1 dL_patience_6 rfl rfl ?_
  refine E_bipush (pc := 7) O (7 : Int32) dL_patience_7 (by decide) ?_
  refine E_iload_n (pc := 9) O 0 dL_patience_9 rfl rfl ?_
  refine E_imul (pc := 10) O dL_patience_10 ?_
  refine E_iconst (pc := 11) O (3 : Int32) dL_patience_11 (by decide) ?_
  refine E_iadd (pc := 12) O dL_patience_12 ?_
  refine E_iaload (pc := 13) O dL_patience_13 hf (fun v2 hf => ?_)
  refine E_imul (pc := 14) O dL_patience_14 ?_
  refine E_bipush (pc := 15) O (99 : Int32) dL_patience_15 (by decide) ?_
  refine E_iadd (pc := 17) O dL_patience_17 ?_
  refine E_bipush (pc := 18) O (100 : Int32) dL_patience_18 (by decide) ?_
  refine E_idiv (pc := 20) O dL_patience_20 hf (fun v3 hf => ?_)
  refine E_istore_n (pc := 21) O 2 [some (.int x0), some (.ref x1), some (.int v3), none] dL_patience_21 rfl (by decide) rfl rfl ?_
  refine E_iload_n (pc := 22) O 2 dL_patience_22 rfl rfl ?_
  refine E_aload_n (pc := 23) O 1 dL_patience_23 rfl rfl ?_
  refine E_bipush (pc := 24) O (7 : Int32) dL_patience_24 (by decide) ?_
  refine E_iload_n (pc := 26) O 0 dL_patience_26 rfl rfl ?_
  refine E_imul (pc := 27) O dL_patience_27 ?_
  refine E_iconst (pc := 28) O (1 : Int32) dL_patience_28 (by decide) ?_
  refine E_iadd (pc := 29) O dL_patience_29 ?_
  refine E_iaload (pc := 30) O dL_patience_30 hf (fun v4 hf => ?_)
  refine E_iadd (pc := 31) O dL_patience_31 ?_
  refine E_iconst (pc := 32) O (1 : Int32) dL_patience_32 (by decide) ?_
  refine E_isub (pc := 33) O dL_patience_33 ?_
  refine E_aload_n (pc := 34) O 1 dL_patience_34 rfl rfl ?_
  refine E_bipush (pc := 35) O (7 : Int32) dL_patience_35 (by decide) ?_
  refine E_iload_n (pc := 37) O 0 dL_patience_37 rfl rfl ?_
  refine E_imul (pc := 38) O dL_patience_38 ?_
  refine E_iconst (pc := 39) O (1 : Int32) dL_patience_39 (by decide) ?_
  refine E_iadd (pc := 40) O dL_patience_40 ?_
  refine E_iaload (pc := 41) O dL_patience_41 hf (fun v5 hf => ?_)
  refine E_idiv (pc := 42) O dL_patience_42 hf (fun v6 hf => ?_)
  refine E_istore_n (pc := 43) O 3 [some (.int x0), some (.ref x1), some (.int v3), some (.int v6)] dL_patience_43 rfl (by decide) rfl rfl ?_
  refine E_iload_n (pc := 44) O 3 dL_patience_44 rfl rfl ?_
  refine E_sipush (pc := 45) O (200 : Int32) dL_patience_45 (by decide) ?_
  refine E_icmp_le (pc := 48) O 55 dL_patience_48 (by decide) hf (fun hf => ?_) (fun hf => ?_)
  · refine E_iload_n (pc := 55) O 3 dL_patience_55 rfl rfl ?_
    exact E_sub (L' := [none, none, none, none]) True.intro (t_b_L_patience_56 O Z v6 hf)
  · refine E_iconst (pc := 51) O (-1 : Int32) dL_patience_51 (by decide) ?_
    refine E_goto (pc := 52) O 56 dL_patience_52 (by decide) ?_
    exact E_sub (L' := [none, none, none, none]) True.intro (t_b_L_patience_56 O Z (-1 : Int32) hf)
