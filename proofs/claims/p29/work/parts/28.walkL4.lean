/-! walks: the machine does what the plain functions say: written by program -/
set_option maxHeartbeats 4000000 in
set_option maxRecDepth 100000 in
theorem t_b_L_act_225 {K : Cx} {out : (Int32 × MH)} (O : Ok K yL_act.cls cL_act 15 (rmm 6 152 1 7)) (Z : Out K (some .boolean) true (some (.int out.1)) out.2) (h : MH) (s0 : Int32) (hf : b_L_act_225 h s0 = some out) : EE K (true, 1, 7) 225 [none, none, none, none, none, none, none, none, none, none, none, none, none, none, none] [.int s0] h := by
  unfold b_L_act_225 at hf
  exact E_zret (pc := 225) O Z hf ⟨(Nat.le_of_ble_eq_true rfl), (Nat.le_of_ble_eq_true rfl)⟩ dL_act_225
set_option maxHeartbeats 4000000 in
set_option maxRecDepth 100000 in
theorem t_b_L_act_158 {K : Cx} {out : (Int32 × MH)} (O : Ok K yL_act.cls cL_act 15 (rmm 6 152 1 7)) (Z : Out K (some .boolean) true (some (.int out.1)) out.2) (rec129 : MH → Nat → Int32 → Nat → Nat → Int32 → Nat → Int32 → Option (Int32 × MH)) (hr129 : ∀ (h : MH) (x0 : Nat) (x3 : Int32) (x5 : Nat) (x8 : Nat) (x9 : Int32) (x10 : Nat) (x11 : Int32), rec129 h x0 x3 x5 x8 x9 x10 x11 = some out → EE K (true, 1, 7) 129 [some (.ref x0), none, none, some (.int x3), none, some (.ref x5), none, none, some (.ref x8), some (.int x9), some (.ref x10), some (.int x11), none, none, none] [] h) (h : MH) (x0 : Nat) (x3 : Int32) (x5 : Nat) (x8 : Nat) (x9 : Int32) (x10 : Nat) (x11 : Int32) (s0 : Nat) (s1 : Int32) (s2 : Int32) (hf : b_L_act_158 rec129 h x0 x3 x5 x8 x9 x10 x11 s0 s1 s2 = some out) : EE K (true, 1, 7) 158 [some (.ref x0), none, none, some (.int x3), none, some (.ref x5), none, none, some (.ref x8), some (.int x9), some (.ref x10), some (.int x11), none, none, none] [.int s2, .int s1, .ref s0] h := by
  unfold b_L_act_158 at hf
  refine E_iastore (pc := 158) O dL_act_158 hf (fun h1 hf => ?_)
  refine E_iinc (pc := 159) O (1 : Int32) [some (.ref x0), none, none, some (.int x3), none, some (.ref x5), none, none, some (.ref x8), some (.int x9), some (.ref x10), some (.int (x11 + (1 : Int32))), none, none, none] dL_act_159 rfl (by decide) rfl (by decide) rfl ?_
  refine E_goto (pc := 162) O 129 dL_act_162 (by decide) ?_
  exact hr129 h1 x0 x3 x5 x8 x9 x10 (x11 + (1 : Int32)) hf
set_option maxHeartbeats 4000000 in
set_option maxRecDepth 100000 in
theorem t_b_L_act_129 {K : Cx} {out : (Int32 × MH)} (O : Ok K yL_act.cls cL_act 15 (rmm 6 152 1 7)) (Z : Out K (some .boolean) true (some (.int out.1)) out.2) (rec129 : MH → Nat → Int32 → Nat → Nat → Int32 → Nat → Int32 → Option (Int32 × MH)) (hr129 : ∀ (h : MH) (x0 : Nat) (x3 : Int32) (x5 : Nat) (x8 : Nat) (x9 : Int32) (x10 : Nat) (x11 : Int32), rec129 h x0 x3 x5 x8 x9 x10 x11 = some out → EE K (true, 1, 7) 129 [some (.ref x0), none, none, some (.int x3), none, some (.ref x5), none, none, some (.ref x8), some (.int x9), some (.ref x10), some (.int x11), none, none, none] [] h) (h : MH) (x0 : Nat) (x3 : Int32) (x5 : Nat) (x8 : Nat) (x9 : Int32) (x10 : Nat) (x11 : Int32) (hf : b_L_act_129 rec129 h x0 x3 x5 x8 x9 x10 x11 = some out) : EE K (true, 1, 7) 129 [some (.ref x0), none, none, some (.int x3), none, some (.ref x5), none, none, some (.ref x8), some (.int x9), some (.ref x10), some (.int x11), none, none, none] [] h := by
  unfold b_L_act_129 at hf
  refine E_iload (pc := 129) O dL_act_129 rfl ?_
  refine E_bipush (pc := 131) O (9 : Int32) dL_act_131 (by decide) ?_
  refine E_icmp_ge (pc := 133) O 165 dL_act_133 (by decide) hf (fun hf => ?_) (fun hf => ?_)
  · refine E_aload (pc := 165) O dL_act_165 rfl ?_
    refine E_bipush (pc := 167) O (9 : Int32) dL_act_167 (by decide) ?_
    refine E_iload (pc := 169) O dL_act_169 rfl ?_
    refine E_imul (pc := 171) O dL_act_171 ?_
    refine E_iload_n (pc := 172) O 3 dL_act_172 rfl rfl ?_
    refine E_iconst (pc := 173) O (4 : Int32) dL_act_173 (by decide) ?_
    refine E_ishr (pc := 174) O dL_act_174 ?_
    refine E_iconst (pc := 175) O (1 : Int32) dL_act_175 (by decide) ?_
    refine E_iload (pc := 176) O dL_act_176 rfl ?_
    refine E_ishl (pc := 178) O dL_act_178 ?_
    refine E_callS_iP (pc := 179) (S := [.int ((9 : Int32) * x9), .ref x5]) O [.int (x3 >>> ((4 : Int32) &&& 31)), .int ((1 : Int32) <<< (x9 &&& 31))] CS_RailSequenceLaw_61 (fun r e => t_L_at e) dL_act_179 hf rfl ⟨(Nat.le_of_ble_eq_true rfl), (Nat.le_of_ble_eq_true rfl)⟩ ⟨(Nat.le_of_ble_eq_true rfl), (Nat.le_of_ble_eq_true rfl)⟩ (Nat.le_of_ble_eq_true rfl) (fun v2 hf => ?_)
    refine E_iastore (pc := 182) O dL_act_182 hf (fun h3 hf => ?_)
    refine E_aload (pc := 183) O dL_act_183 rfl ?_
    refine E_iconst (pc := 185) O (0 : Int32) dL_act_185 (by decide) ?_
    refine E_dup2 (pc := 186) O dL_act_186 rfl rfl ?_
    refine E_iaload (pc := 187) O dL_act_187 hf (fun v4 hf => ?_)
    refine E_iconst (pc := 188) O (1 : Int32) dL_act_188 (by decide) ?_
    refine E_iadd (pc := 189) O dL_act_189 ?_
    refine E_iastore (pc := 190) O dL_act_190 hf (fun h5 hf => ?_)
    refine E_aload_n (pc := 191) O 0 dL_act_191 rfl rfl ?_
    refine E_aload (pc := 192) O dL_act_192 rfl ?_
    refine E_iconst (pc := 194) O (0 : Int32) dL_act_194 (by decide) ?_
    refine E_iaload (pc := 195) O dL_act_195 hf (fun v6 hf => ?_)
    refine E_aload (pc := 196) O dL_act_196 rfl ?_
    refine E_iconst (pc := 198) O (1 : Int32) dL_act_198 (by decide) ?_
    refine E_iaload (pc := 199) O dL_act_199 hf (fun v7 hf => ?_)
    refine E_aload (pc := 200) O dL_act_200 rfl ?_
    refine E_iconst (pc := 202) O (2 : Int32) dL_act_202 (by decide) ?_
    refine E_iaload (pc := 203) O dL_act_203 hf (fun v8 hf => ?_)
    refine E_aload (pc := 204) O dL_act_204 rfl ?_
    refine E_bipush (pc := 206) O (9 : Int32) dL_act_206 (by decide) ?_
    refine E_iload (pc := 208) O dL_act_208 rfl ?_
    refine E_imul (pc := 210) O dL_act_210 ?_
    refine E_iaload (pc := 211) O dL_act_211 hf (fun v9 hf => ?_)
    refine E_callV_i (pc := 212) (S := []) O [.int v6, .int v7, .int v8, .int v9] CV_RailSequenceLaw_78 rfl (fun r e => t_X3_addRail e) dL_act_212 hf rfl ⟨(Nat.le_of_ble_eq_true rfl), (Nat.le_of_ble_eq_true rfl)⟩ ⟨(Nat.le_of_ble_eq_true rfl), (Nat.le_of_ble_eq_true rfl)⟩ (Nat.le_of_ble_eq_true rfl) (fun p10 hf => ?_)
    refine E_iload (pc := 215) O dL_act_215 rfl ?_
    refine E_icmp_ne (pc := 217) O 224 dL_act_217 (by decide) hf (fun hf => ?_) (fun hf => ?_)
    · refine E_iconst (pc := 224) O (0 : Int32) dL_act_224 (by decide) ?_
      exact E_sub (L' := [none, none, none, none, none, none, none, none, none, none, none, none, none, none, none]) True.intro (t_b_L_act_225 O Z p10.2 (0 : Int32) hf)
    · refine E_iconst (pc := 220) O (1 : Int32) dL_act_220 (by decide) ?_
      refine E_goto (pc := 221) O 225 dL_act_221 (by decide) ?_
      exact E_sub (L' := [none, none, none, none, none, none, none, none, none, none, none, none, none, none, none]) True.intro (t_b_L_act_225 O Z p10.2 (1 : Int32) hf)
  · refine E_aload (pc := 136) O dL_act_136 rfl ?_
    refine E_bipush (pc := 138) O (9 : Int32) dL_act_138 (by decide) ?_
    refine E_iload (pc := 140) O dL_act_140 rfl ?_
    refine E_imul (pc := 142) O dL_act_142 ?_
    refine E_iload (pc := 143) O dL_act_143 rfl ?_
    refine E_iadd (pc := 145) O dL_act_145 ?_
    refine E_iload (pc := 146) O dL_act_146 rfl ?_
    refine E_bipush (pc := 148) O (8 : Int32) dL_act_148 (by decide) ?_
    refine E_icmp_ne (pc := 150) O 157 dL_act_150 (by decide) hf (fun hf => ?_) (fun hf => ?_)
    · refine E_iconst (pc := 157) O (0 : Int32) dL_act_157 (by decide) ?_
      exact t_b_L_act_158 O Z _ hr129 h x0 x3 x5 x8 x9 x10 x11 x5 (((9 : Int32) * x9) + x11) (0 : Int32) hf
    · refine E_iconst (pc := 153) O (-1 : Int32) dL_act_153 (by decide) ?_
      refine E_goto (pc := 154) O 158 dL_act_154 (by decide) ?_
      exact t_b_L_act_158 O Z _ hr129 h x0 x3 x5 x8 x9 x10 x11 x5 (((9 : Int32) * x9) + x11) (-1 : Int32) hf
theorem t_f_L_act_129 {K : Cx} {out : (Int32 × MH)} (O : Ok K yL_act.cls cL_act 15 (rmm 6 152 1 7)) (Z : Out K (some .boolean) true (some (.int out.1)) out.2) : ∀ (n : Nat) (h : MH) (x0 : Nat) (x3 : Int32) (x5 : Nat) (x8 : Nat) (x9 : Int32) (x10 : Nat) (x11 : Int32), f_L_act_129 n h x0 x3 x5 x8 x9 x10 x11 = some out → EE K (true, 1, 7) 129 [some (.ref x0), none, none, some (.int x3), none, some (.ref x5), none, none, some (.ref x8), some (.int x9), some (.ref x10), some (.int x11), none, none, none] [] h := by
  intro n
  induction n with
  | zero => intro h x0 x3 x5 x8 x9 x10 x11 hf; cases hf
  | succ n ih => intro h x0 x3 x5 x8 x9 x10 x11 hf; exact t_b_L_act_129 O Z _ ih h x0 x3 x5 x8 x9 x10 x11 hf
set_option maxHeartbeats 4000000 in
set_option maxRecDepth 100000 in
theorem t_b_L_act_97 {K : Cx} {out : (Int32 × MH)} (O : Ok K yL_act.cls cL_act 15 (rmm 6 152 1 7)) (Z : Out K (some .boolean) true (some (.int out.1)) out.2) (rec97 : MH → Nat → Int32 → Nat → Nat → Nat → Int32 → Nat → Int32 → Option (Int32 × MH)) (hr97 : ∀ (h : MH) (x0 : Nat) (x3 : Int32) (x4 : Nat) (x5 : Nat) (x8 : Nat) (x9 : Int32) (x10 : Nat) (x11 : Int32), rec97 h x0 x3 x4 x5 x8 x9 x10 x11 = some out → EE K (true, 1, 7) 97 [some (.ref x0), none, none, some (.int x3), some (.ref x4), some (.ref x5), none, none, some (.ref x8), some (.int x9), some (.ref x10), some (.int x11), none, none, none] [] h) (h : MH) (x0 : Nat) (x3 : Int32) (x4 : Nat) (x5 : Nat) (x8 : Nat) (x9 : Int32) (x10 : Nat) (x11 : Int32) (hf : b_L_act_97 rec97 h x0 x3 x4 x5 x8 x9 x10 x11 = some out) : EE K (true, 1, 7) 97 [some (.ref x0), none, none, some (.int x3), some (.ref x4), some (.ref x5), none, none, some (.ref x8), some (.int x9), some (.ref x10), some (.int x11), none, none, none] [] h := by
  unfold b_L_act_97 at hf
  refine E_iload (pc := 97) O dL_act_97 rfl ?_
  refine E_bipush (pc := 99) O (7 : Int32) dL_act_99 (by decide) ?_
  refine E_icmp_ge (pc := 101) O 126 dL_act_101 (by decide) hf (fun hf => ?_) (fun hf => ?_)
  · refine E_iconst (pc := 126) O (0 : Int32) dL_act_126 (by decide) ?_
    refine E_istore (pc := 127) O [some (.ref x0), none, none, some (.int x3), some (.ref x4), some (.ref x5), none, none, some (.ref x8), some (.int x9), some (.ref x10), some (.int (0 : Int32)), none, none, none] dL_act_127 (by decide) rfl rfl ?_
    exact E_sub (L' := [some (.ref x0), none, none, some (.int x3), none, some (.ref x5), none, none, some (.ref x8), some (.int x9), some (.ref x10), some (.int (0 : Int32)), none, none, none]) (And.intro rfl (And.intro rfl (And.intro rfl (And.intro rfl (And.intro rfl (And.intro rfl (And.intro rfl True.intro))))))) (t_f_L_act_129 O Z FU h x0 x3 x5 x8 x9 x10 (0 : Int32) hf)
  · refine E_aload (pc := 104) O dL_act_104 rfl ?_
    refine E_bipush (pc := 106) O (7 : Int32) dL_act_106 (by decide) ?_
    refine E_iload (pc := 108) O dL_act_108 rfl ?_
    refine E_imul (pc := 110) O dL_act_110 ?_
    refine E_iload (pc := 111) O dL_act_111 rfl ?_
    refine E_iadd (pc := 113) O dL_act_113 ?_
    refine E_aload (pc := 114) O dL_act_114 rfl ?_
    refine E_iload (pc := 116) O dL_act_116 rfl ?_
    refine E_iaload (pc := 118) O dL_act_118 hf (fun v11 hf => ?_)
    refine E_iastore (pc := 119) O dL_act_119 hf (fun h12 hf => ?_)
    refine E_iinc (pc := 120) O (1 : Int32) [some (.ref x0), none, none, some (.int x3), some (.ref x4), some (.ref x5), none, none, some (.ref x8), some (.int x9), some (.ref x10), some (.int (x11 + (1 : Int32))), none, none, none] dL_act_120 rfl (by decide) rfl (by decide) rfl ?_
    refine E_goto (pc := 123) O 97 dL_act_123 (by decide) ?_
    exact hr97 h12 x0 x3 x4 x5 x8 x9 x10 (x11 + (1 : Int32)) hf
theorem t_f_L_act_97 {K : Cx} {out : (Int32 × MH)} (O : Ok K yL_act.cls cL_act 15 (rmm 6 152 1 7)) (Z : Out K (some .boolean) true (some (.int out.1)) out.2) : ∀ (n : Nat) (h : MH) (x0 : Nat) (x3 : Int32) (x4 : Nat) (x5 : Nat) (x8 : Nat) (x9 : Int32) (x10 : Nat) (x11 : Int32), f_L_act_97 n h x0 x3 x4 x5 x8 x9 x10 x11 = some out → EE K (true, 1, 7) 97 [some (.ref x0), none, none, some (.int x3), some (.ref x4), some (.ref x5), none, none, some (.ref x8), some (.int x9), some (.ref x10), some (.int x11), none, none, none] [] h := by
  intro n
  induction n with
  | zero => intro h x0 x3 x4 x5 x8 x9 x10 x11 hf; cases hf
  | succ n ih => intro h x0 x3 x4 x5 x8 x9 x10 x11 hf; exact t_b_L_act_97 O Z _ ih h x0 x3 x4 x5 x8 x9 x10 x11 hf
set_option maxHeartbeats 4000000 in
set_option maxRecDepth 100000 in
theorem t_b_L_act_307 {K : Cx} {out : (Int32 × MH)} (O : Ok K yL_act.cls cL_act 15 (rmm 6 152 1 7)) (Z : Out K (some .boolean) true (some (.int out.1)) out.2) (h : MH) (s0 : Int32) (hf : b_L_act_307 h s0 = some out) : EE K (true, 1, 7) 307 [none, none, none, none, none, none, none, none, none, none, none, none, none, none, none] [.int s0] h := by
  unfold b_L_act_307 at hf
  exact E_zret (pc := 307) O Z hf ⟨(Nat.le_of_ble_eq_true rfl), (Nat.le_of_ble_eq_true rfl)⟩ dL_act_307
set_option maxHeartbeats 4000000 in
set_option maxRecDepth 100000 in
theorem t_b_L_act_263 {K : Cx} {out : (Int32 × MH)} (O : Ok K yL_act.cls cL_act 15 (rmm 6 152 1 7)) (Z : Out K (some .boolean) true (some (.int out.1)) out.2) (rec263 : MH → Nat → Nat → Nat → Nat → Nat → Nat → Int32 → Int32 → Option (Int32 × MH)) (hr263 : ∀ (h : MH) (x0 : Nat) (x4 : Nat) (x5 : Nat) (x6 : Nat) (x7 : Nat) (x8 : Nat) (x9 : Int32) (x10 : Int32), rec263 h x0 x4 x5 x6 x7 x8 x9 x10 = some out → EE K (true, 1, 7) 263 [some (.ref x0), none, none, none, some (.ref x4), some (.ref x5), some (.ref x6), some (.ref x7), some (.ref x8), some (.int x9), some (.int x10), none, none, none, none] [] h) (h : MH) (x0 : Nat) (x4 : Nat) (x5 : Nat) (x6 : Nat) (x7 : Nat) (x8 : Nat) (x9 : Int32) (x10 : Int32) (hf : b_L_act_263 rec263 h x0 x4 x5 x6 x7 x8 x9 x10 = some out) : EE K (true, 1, 7) 263 [some (.ref x0), none, none, none, some (.ref x4), some (.ref x5), some (.ref x6), some (.ref x7), some (.ref x8), some (.int x9), some (.int x10), none, none, none, none] [] h := by
  unfold b_L_act_263 at hf
  refine E_iload (pc := 263) O dL_act_263 rfl ?_
  refine E_iload (pc := 265) O dL_act_265 rfl ?_
  refine E_icmp_ge (pc := 267) O 289 dL_act_267 (by decide) hf (fun hf => ?_) (fun hf => ?_)
  · refine E_aload_n (pc := 289) O 0 dL_act_289 rfl rfl ?_
    refine E_iload (pc := 290) O dL_act_290 rfl ?_
    refine E_callV_i (pc := 292) (S := []) O [.int x9] CV_RailSequenceLaw_82 rfl (fun r e => t_X3_tick e) dL_act_292 hf rfl ⟨(Nat.le_of_ble_eq_true rfl), (Nat.le_of_ble_eq_true rfl)⟩ ⟨(Nat.le_of_ble_eq_true rfl), (Nat.le_of_ble_eq_true rfl)⟩ (Nat.le_of_ble_eq_true rfl) (fun p13 hf => ?_)
    refine E_aload (pc := 295) O dL_act_295 rfl ?_
    refine E_iconst (pc := 297) O (4 : Int32) dL_act_297 (by decide) ?_
    refine E_iaload (pc := 298) O dL_act_298 hf (fun v14 hf => ?_)
    refine E_icmp_ne (pc := 299) O 306 dL_act_299 (by decide) hf (fun hf => ?_) (fun hf => ?_)
    · refine E_iconst (pc := 306) O (0 : Int32) dL_act_306 (by decide) ?_
      exact E_sub (L' := [none, none, none, none, none, none, none, none, none, none, none, none, none, none, none]) True.intro (t_b_L_act_307 O Z p13.2 (0 : Int32) hf)
    · refine E_iconst (pc := 302) O (1 : Int32) dL_act_302 (by decide) ?_
      refine E_goto (pc := 303) O 307 dL_act_303 (by decide) ?_
      exact E_sub (L' := [none, none, none, none, none, none, none, none, none, none, none, none, none, none, none]) True.intro (t_b_L_act_307 O Z p13.2 (1 : Int32) hf)
  · refine E_aload (pc := 270) O dL_act_270 rfl ?_
    refine E_aload (pc := 272) O dL_act_272 rfl ?_
    refine E_aload (pc := 274) O dL_act_274 rfl ?_
    refine E_aload (pc := 276) O dL_act_276 rfl ?_
    refine E_aload (pc := 278) O dL_act_278 rfl ?_
    refine E_callS_v (pc := 280) (S := []) O [.ref x4, .ref x5, .ref x6, .ref x7, .ref x8] CS_RailSequenceLaw_57 (fun r e => t_L_tick e) dL_act_280 hf rfl ⟨(Nat.le_of_ble_eq_true rfl), (Nat.le_of_ble_eq_true rfl)⟩ ⟨(Nat.le_of_ble_eq_true rfl), (Nat.le_of_ble_eq_true rfl)⟩ (Nat.le_of_ble_eq_true rfl) (fun h15 hf => ?_)
    refine E_iinc (pc := 283) O (1 : Int32) [some (.ref x0), none, none, none, some (.ref x4), some (.ref x5), some (.ref x6), some (.ref x7), some (.ref x8), some (.int x9), some (.int (x10 + (1 : Int32))), none, none, none, none] dL_act_283 rfl (by decide) rfl (by decide) rfl ?_
    refine E_goto (pc := 286) O 263 dL_act_286 (by decide) ?_
    exact hr263 h15 x0 x4 x5 x6 x7 x8 x9 (x10 + (1 : Int32)) hf
theorem t_f_L_act_263 {K : Cx} {out : (Int32 × MH)} (O : Ok K yL_act.cls cL_act 15 (rmm 6 152 1 7)) (Z : Out K (some .boolean) true (some (.int out.1)) out.2) : ∀ (n : Nat) (h : MH) (x0 : Nat) (x4 : Nat) (x5 : Nat) (x6 : Nat) (x7 : Nat) (x8 : Nat) (x9 : Int32) (x10 : Int32), f_L_act_263 n h x0 x4 x5 x6 x7 x8 x9 x10 = some out → EE K (true, 1, 7) 263 [some (.ref x0), none, none, none, some (.ref x4), some (.ref x5), some (.ref x6), some (.ref x7), some (.ref x8), some (.int x9), some (.int x10), none, none, none, none] [] h := by
  intro n
  induction n with
  | zero => intro h x0 x4 x5 x6 x7 x8 x9 x10 hf; cases hf
  | succ n ih => intro h x0 x4 x5 x6 x7 x8 x9 x10 hf; exact t_b_L_act_263 O Z _ ih h x0 x4 x5 x6 x7 x8 x9 x10 hf
set_option maxHeartbeats 4000000 in
set_option maxRecDepth 100000 in
theorem t_b_L_act_249 {K : Cx} {out : (Int32 × MH)} (O : Ok K yL_act.cls cL_act 15 (rmm 6 152 1 7)) (Z : Out K (some .boolean) true (some (.int out.1)) out.2) (h : MH) (x0 : Nat) (x4 : Nat) (x5 : Nat) (x6 : Nat) (x7 : Nat) (x8 : Nat) (s0 : Int32) (s1 : Int32) (s2 : Int32) (hf : b_L_act_249 h x0 x4 x5 x6 x7 x8 s0 s1 s2 = some out) : EE K (true, 1, 7) 249 [some (.ref x0), none, none, none, some (.ref x4), some (.ref x5), some (.ref x6), some (.ref x7), some (.ref x8), none, none, none, none, none, none] [.int s2, .int s1, .int s0] h := by
  unfold b_L_act_249 at hf
  refine E_callS_iP (pc := 249) (S := [.int s0]) O [.int s1, .int s2] CS_RailSequenceLaw_61 (fun r e => t_L_at e) dL_act_249 hf rfl ⟨(Nat.le_of_ble_eq_true rfl), (Nat.le_of_ble_eq_true rfl)⟩ ⟨(Nat.le_of_ble_eq_true rfl), (Nat.le_of_ble_eq_true rfl)⟩ (Nat.le_of_ble_eq_true rfl) (fun v16 hf => ?_)
  refine E_iadd (pc := 252) O dL_act_252 ?_
  obtain ⟨v17, ev17, hf⟩ := ob hf
  have ev17 := os ev17
  rw [ev17]
  refine E_istore (pc := 253) O [some (.ref x0), none, none, none, some (.ref x4), some (.ref x5), some (.ref x6), some (.ref x7), some (.ref x8), some (.int v17), none, none, none, none, none] dL_act_253 (by decide) rfl rfl ?_
  refine E_aload (pc := 255) O dL_act_255 rfl ?_
  refine E_iconst (pc := 257) O (4 : Int32) dL_act_257 (by decide) ?_
  refine E_iconst (pc := 258) O (0 : Int32) dL_act_258 (by decide) ?_
  refine E_iastore (pc := 259) O dL_act_259 hf (fun h18 hf => ?_)
  refine E_iconst (pc := 260) O (0 : Int32) dL_act_260 (by decide) ?_
  refine E_istore (pc := 261) O [some (.ref x0), none, none, none, some (.ref x4), some (.ref x5), some (.ref x6), some (.ref x7), some (.ref x8), some (.int v17), some (.int (0 : Int32)), none, none, none, none] dL_act_261 (by decide) rfl rfl ?_
  exact t_f_L_act_263 O Z FU h18 x0 x4 x5 x6 x7 x8 v17 (0 : Int32) hf
set_option maxHeartbeats 4000000 in
set_option maxRecDepth 100000 in
theorem t_b_L_act_433 {K : Cx} {out : (Int32 × MH)} (O : Ok K yL_act.cls cL_act 15 (rmm 6 152 1 7)) (Z : Out K (some .boolean) true (some (.int out.1)) out.2) (rec392 : MH → Nat → Int32 → Nat → Nat → Int32 → Int32 → Int32 → Option (Int32 × MH)) (hr392 : ∀ (h : MH) (x0 : Nat) (x1 : Int32) (x5 : Nat) (x8 : Nat) (x9 : Int32) (x10 : Int32) (x11 : Int32), rec392 h x0 x1 x5 x8 x9 x10 x11 = some out → EE K (true, 1, 7) 392 [some (.ref x0), some (.int x1), none, none, none, some (.ref x5), none, none, some (.ref x8), some (.int x9), some (.int x10), some (.int x11), none, none, none] [] h) (h : MH) (x0 : Nat) (x1 : Int32) (x5 : Nat) (x8 : Nat) (x9 : Int32) (x10 : Int32) (x11 : Int32) (hf : b_L_act_433 rec392 h x0 x1 x5 x8 x9 x10 x11 = some out) : EE K (true, 1, 7) 433 [some (.ref x0), some (.int x1), none, none, none, some (.ref x5), none, none, some (.ref x8), some (.int x9), some (.int x10), some (.int x11), none, none, none] [] h := by
  unfold b_L_act_433 at hf
  refine E_iinc (pc := 433) O (1 : Int32) [some (.ref x0), some (.int x1), none, none, none, some (.ref x5), none, none, some (.ref x8), some (.int x9), some (.int x10), some (.int (x11 + (1 : Int32))), none, none, none] dL_act_433 rfl (by decide) rfl (by decide) rfl ?_
  refine E_goto (pc := 436) O 392 dL_act_436 (by decide) ?_
  exact hr392 h x0 x1 x5 x8 x9 x10 (x11 + (1 : Int32)) hf
set_option maxHeartbeats 4000000 in
set_option maxRecDepth 100000 in
theorem t_b_L_act_432 {K : Cx} {out : (Int32 × MH)} (O : Ok K yL_act.cls cL_act 15 (rmm 6 152 1 7)) (Z : Out K (some .boolean) true (some (.int out.1)) out.2) (rec392 : MH → Nat → Int32 → Nat → Nat → Int32 → Int32 → Int32 → Option (Int32 × MH)) (hr392 : ∀ (h : MH) (x0 : Nat) (x1 : Int32) (x5 : Nat) (x8 : Nat) (x9 : Int32) (x10 : Int32) (x11 : Int32), rec392 h x0 x1 x5 x8 x9 x10 x11 = some out → EE K (true, 1, 7) 392 [some (.ref x0), some (.int x1), none, none, none, some (.ref x5), none, none, some (.ref x8), some (.int x9), some (.int x10), some (.int x11), none, none, none] [] h) (h : MH) (x0 : Nat) (x1 : Int32) (x5 : Nat) (x8 : Nat) (x9 : Int32) (x10 : Int32) (x11 : Int32) (s0 : Nat) (s1 : Int32) (s2 : Int32) (hf : b_L_act_432 rec392 h x0 x1 x5 x8 x9 x10 x11 s0 s1 s2 = some out) : EE K (true, 1, 7) 432 [some (.ref x0), some (.int x1), none, none, none, some (.ref x5), none, none, some (.ref x8), some (.int x9), some (.int x10), some (.int x11), none, none, none] [.int s2, .int s1, .ref s0] h := by
  unfold b_L_act_432 at hf
  refine E_iastore (pc := 432) O dL_act_432 hf (fun h19 hf => ?_)
  exact t_b_L_act_433 O Z _ hr392 h19 x0 x1 x5 x8 x9 x10 x11 hf
set_option maxHeartbeats 4000000 in
set_option maxRecDepth 100000 in
theorem t_b_L_act_477 {K : Cx} {out : (Int32 × MH)} (O : Ok K yL_act.cls cL_act 15 (rmm 6 152 1 7)) (Z : Out K (some .boolean) true (some (.int out.1)) out.2) (h : MH) (s0 : Int32) (hf : b_L_act_477 h s0 = some out) : EE K (true, 1, 7) 477 [none, none, none, none, none, none, none, none, none, none, none, none, none, none, none] [.int s0] h := by
  unfold b_L_act_477 at hf
  exact E_zret (pc := 477) O Z hf ⟨(Nat.le_of_ble_eq_true rfl), (Nat.le_of_ble_eq_true rfl)⟩ dL_act_477
set_option maxHeartbeats 4000000 in
set_option maxRecDepth 100000 in
theorem t_b_L_act_460 {K : Cx} {out : (Int32 × MH)} (O : Ok K yL_act.cls cL_act 15 (rmm 6 152 1 7)) (Z : Out K (some .boolean) true (some (.int out.1)) out.2) (h : MH) (x5 : Nat) (x8 : Nat) (s0 : Int32) (hf : b_L_act_460 h x5 x8 s0 = some out) : EE K (true, 1, 7) 460 [none, none, none, none, none, some (.ref x5), none, none, some (.ref x8), none, none, none, none, none, none] [.int s0] h := by
  unfold b_L_act_460 at hf
  refine E_iconst (pc := 460) O (1 : Int32) dL_act_460 (by decide) ?_
  refine E_iconst (pc := 461) O (1 : Int32) dL_act_461 (by decide) ?_
  refine E_aload (pc := 462) O dL_act_462 rfl ?_
  refine E_aload (pc := 464) O dL_act_464 rfl ?_
  refine E_callS_iP (pc := 466) (S := [.int s0]) O [.int (1 : Int32), .int (1 : Int32), .ref x5, .ref x8] CS_RailSequenceLaw_49 (fun r e => t_L_mask e) dL_act_466 hf rfl ⟨(Nat.le_of_ble_eq_true rfl), (Nat.le_of_ble_eq_true rfl)⟩ ⟨(Nat.le_of_ble_eq_true rfl), (Nat.le_of_ble_eq_true rfl)⟩ (Nat.le_of_ble_eq_true rfl) (fun v20 hf => ?_)
  refine E_icmp_ne (pc := 469) O 476 dL_act_469 (by decide) hf (fun hf => ?_) (fun hf => ?_)
  · refine E_iconst (pc := 476) O (0 : Int32) dL_act_476 (by decide) ?_
    exact E_sub (L' := [none, none, none, none, none, none, none, none, none, none, none, none, none, none, none]) True.intro (t_b_L_act_477 O Z h (0 : Int32) hf)
  · refine E_iconst (pc := 472) O (1 : Int32) dL_act_472 (by decide) ?_
    refine E_goto (pc := 473) O 477 dL_act_473 (by decide) ?_
    exact E_sub (L' := [none, none, none, none, none, none, none, none, none, none, none, none, none, none, none]) True.intro (t_b_L_act_477 O Z h (1 : Int32) hf)
set_option maxHeartbeats 4000000 in
set_option maxRecDepth 100000 in
theorem t_b_L_act_392 {K : Cx} {out : (Int32 × MH)} (O : Ok K yL_act.cls cL_act 15 (rmm 6 152 1 7)) (Z : Out K (some .boolean) true (some (.int out.1)) out.2) (rec392 : MH → Nat → Int32 → Nat → Nat → Int32 → Int32 → Int32 → Option (Int32 × MH)) (hr392 : ∀ (h : MH) (x0 : Nat) (x1 : Int32) (x5 : Nat) (x8 : Nat) (x9 : Int32) (x10 : Int32) (x11 : Int32), rec392 h x0 x1 x5 x8 x9 x10 x11 = some out → EE K (true, 1, 7) 392 [some (.ref x0), some (.int x1), none, none, none, some (.ref x5), none, none, some (.ref x8), some (.int x9), some (.int x10), some (.int x11), none, none, none] [] h) (h : MH) (x0 : Nat) (x1 : Int32) (x5 : Nat) (x8 : Nat) (x9 : Int32) (x10 : Int32) (x11 : Int32) (hf : b_L_act_392 rec392 h x0 x1 x5 x8 x9 x10 x11 = some out) : EE K (true, 1, 7) 392 [some (.ref x0), some (.int x1), none, none, none, some (.ref x5), none, none, some (.ref x8), some (.int x9), some (.int x10), some (.int x11), none, none, none] [] h := by
  unfold b_L_act_392 at hf
  refine E_iload (pc := 392) O dL_act_392 rfl ?_
  refine E_aload (pc := 394) O dL_act_394 rfl ?_
  refine E_iconst (pc := 396) O (0 : Int32) dL_act_396 (by decide) ?_
  refine E_iaload (pc := 397) O dL_act_397 hf (fun v21 hf => ?_)
  refine E_icmp_ge (pc := 398) O 439 dL_act_398 (by decide) hf (fun hf => ?_) (fun hf => ?_)
  · refine E_iload_n (pc := 439) O 1 dL_act_439 rfl rfl ?_
    refine E_bipush (pc := 440) O (9 : Int32) dL_act_440 (by decide) ?_
    refine E_icmp_ge (pc := 442) O 454 dL_act_442 (by decide) hf (fun hf => ?_) (fun hf => ?_)
    · refine E_aload_n (pc := 454) O 0 dL_act_454 rfl rfl ?_
      refine E_iload (pc := 455) O dL_act_455 rfl ?_
      refine E_callV_i (pc := 457) (S := []) O [.int x9] CV_RailSequenceLaw_87 rfl (fun r e => t_X3_off e) dL_act_457 hf rfl ⟨(Nat.le_of_ble_eq_true rfl), (Nat.le_of_ble_eq_true rfl)⟩ ⟨(Nat.le_of_ble_eq_true rfl), (Nat.le_of_ble_eq_true rfl)⟩ (Nat.le_of_ble_eq_true rfl) (fun p22 hf => ?_)
      exact E_sub (L' := [none, none, none, none, none, some (.ref x5), none, none, some (.ref x8), none, none, none, none, none, none]) (And.intro rfl (And.intro rfl True.intro)) (t_b_L_act_460 O Z p22.2 x5 x8 p22.1 hf)
    · refine E_aload_n (pc := 445) O 0 dL_act_445 rfl rfl ?_
      refine E_iload (pc := 446) O dL_act_446 rfl ?_
      refine E_callV_i (pc := 448) (S := []) O [.int x9] CV_RailSequenceLaw_84 rfl (fun r e => t_X3_on e) dL_act_448 hf rfl ⟨(Nat.le_of_ble_eq_true rfl), (Nat.le_of_ble_eq_true rfl)⟩ ⟨(Nat.le_of_ble_eq_true rfl), (Nat.le_of_ble_eq_true rfl)⟩ (Nat.le_of_ble_eq_true rfl) (fun p23 hf => ?_)
      refine E_goto (pc := 451) O 460 dL_act_451 (by decide) ?_
      exact E_sub (L' := [none, none, none, none, none, some (.ref x5), none, none, some (.ref x8), none, none, none, none, none, none]) (And.intro rfl (And.intro rfl True.intro)) (t_b_L_act_460 O Z p23.2 x5 x8 p23.1 hf)
  · refine E_iload (pc := 401) O dL_act_401 rfl ?_
    refine E_iload (pc := 403) O dL_act_403 rfl ?_
    refine E_ishr (pc := 405) O dL_act_405 ?_
    refine E_iconst (pc := 406) O (1 : Int32) dL_act_406 (by decide) ?_
    refine E_iand (pc := 407) O dL_act_407 ?_
    refine E_iconst (pc := 408) O (1 : Int32) dL_act_408 (by decide) ?_
    refine E_icmp_ne (pc := 409) O 433 dL_act_409 (by decide) hf (fun hf => ?_) (fun hf => ?_)
    · exact t_b_L_act_433 O Z _ hr392 h x0 x1 x5 x8 x9 x10 x11 hf
    · refine E_aload (pc := 412) O dL_act_412 rfl ?_
      refine E_bipush (pc := 414) O (9 : Int32) dL_act_414 (by decide) ?_
      refine E_iload (pc := 416) O dL_act_416 rfl ?_
      refine E_imul (pc := 418) O dL_act_418 ?_
      refine E_iconst (pc := 419) O (1 : Int32) dL_act_419 (by decide) ?_
      refine E_iadd (pc := 420) O dL_act_420 ?_
      refine E_iload_n (pc := 421) O 1 dL_act_421 rfl rfl ?_
      refine E_bipush (pc := 422) O (9 : Int32) dL_act_422 (by decide) ?_
      refine E_icmp_ge (pc := 424) O 431 dL_act_424 (by decide) hf (fun hf => ?_) (fun hf => ?_)
      · refine E_iconst (pc := 431) O (0 : Int32) dL_act_431 (by decide) ?_
        exact t_b_L_act_432 O Z _ hr392 h x0 x1 x5 x8 x9 x10 x11 x5 (((9 : Int32) * x11) + (1 : Int32)) (0 : Int32) hf
      · refine E_iconst (pc := 427) O (1 : Int32) dL_act_427 (by decide) ?_
        refine E_goto (pc := 428) O 432 dL_act_428 (by decide) ?_
        exact t_b_L_act_432 O Z _ hr392 h x0 x1 x5 x8 x9 x10 x11 x5 (((9 : Int32) * x11) + (1 : Int32)) (1 : Int32) hf
theorem t_f_L_act_392 {K : Cx} {out : (Int32 × MH)} (O : Ok K yL_act.cls cL_act 15 (rmm 6 152 1 7)) (Z : Out K (some .boolean) true (some (.int out.1)) out.2) : ∀ (n : Nat) (h : MH) (x0 : Nat) (x1 : Int32) (x5 : Nat) (x8 : Nat) (x9 : Int32) (x10 : Int32) (x11 : Int32), f_L_act_392 n h x0 x1 x5 x8 x9 x10 x11 = some out → EE K (true, 1, 7) 392 [some (.ref x0), some (.int x1), none, none, none, some (.ref x5), none, none, some (.ref x8), some (.int x9), some (.int x10), some (.int x11), none, none, none] [] h := by
  intro n
  induction n with
  | zero => intro h x0 x1 x5 x8 x9 x10 x11 hf; cases hf
  | succ n ih => intro h x0 x1 x5 x8 x9 x10 x11 hf; exact t_b_L_act_392 O Z _ ih h x0 x1 x5 x8 x9 x10 x11 hf
set_option maxHeartbeats 4000000 in
set_option maxRecDepth 100000 in
theorem t_b_L_act_380 {K : Cx} {out : (Int32 × MH)} (O : Ok K yL_act.cls cL_act 15 (rmm 6 152 1 7)) (Z : Out K (some .boolean) true (some (.int out.1)) out.2) (h : MH) (x0 : Nat) (x1 : Int32) (x5 : Nat) (x8 : Nat) (x9 : Int32) (s0 : Int32) (s1 : Int32) (hf : b_L_act_380 h x0 x1 x5 x8 x9 s0 s1 = some out) : EE K (true, 1, 7) 380 [some (.ref x0), some (.int x1), none, none, none, some (.ref x5), none, none, some (.ref x8), some (.int x9), none, none, none, none, none] [.int s1, .int s0] h := by
  unfold b_L_act_380 at hf
  refine E_aload (pc := 380) O dL_act_380 rfl ?_
  refine E_aload (pc := 382) O dL_act_382 rfl ?_
  refine E_callS_iP (pc := 384) (S := []) O [.int s0, .int s1, .ref x5, .ref x8] CS_RailSequenceLaw_28 (fun r e => t_L_closed e) dL_act_384 hf rfl ⟨(Nat.le_of_ble_eq_true rfl), (Nat.le_of_ble_eq_true rfl)⟩ ⟨(Nat.le_of_ble_eq_true rfl), (Nat.le_of_ble_eq_true rfl)⟩ (Nat.le_of_ble_eq_true rfl) (fun v24 hf => ?_)
  refine E_istore (pc := 387) O [some (.ref x0), some (.int x1), none, none, none, some (.ref x5), none, none, some (.ref x8), some (.int x9), some (.int v24), none, none, none, none] dL_act_387 (by decide) rfl rfl ?_
  refine E_iconst (pc := 389) O (0 : Int32) dL_act_389 (by decide) ?_
  refine E_istore (pc := 390) O [some (.ref x0), some (.int x1), none, none, none, some (.ref x5), none, none, some (.ref x8), some (.int x9), some (.int v24), some (.int (0 : Int32)), none, none, none] dL_act_390 (by decide) rfl rfl ?_
  exact t_f_L_act_392 O Z FU h x0 x1 x5 x8 x9 v24 (0 : Int32) hf
set_option maxHeartbeats 4000000 in
set_option maxRecDepth 100000 in
theorem t_b_L_act_365 {K : Cx} {out : (Int32 × MH)} (O : Ok K yL_act.cls cL_act 15 (rmm 6 152 1 7)) (Z : Out K (some .boolean) true (some (.int out.1)) out.2) (h : MH) (x0 : Nat) (x1 : Int32) (x5 : Nat) (x8 : Nat) (s0 : Int32) (hf : b_L_act_365 h x0 x1 x5 x8 s0 = some out) : EE K (true, 1, 7) 365 [some (.ref x0), some (.int x1), none, none, none, some (.ref x5), none, none, some (.ref x8), none, none, none, none, none, none] [.int s0] h := by
  unfold b_L_act_365 at hf
  refine E_istore (pc := 365) O [some (.ref x0), some (.int x1), none, none, none, some (.ref x5), none, none, some (.ref x8), some (.int s0), none, none, none, none, none] dL_act_365 (by decide) rfl rfl ?_
  refine E_iload (pc := 367) O dL_act_367 rfl ?_
  refine E_iload_n (pc := 369) O 1 dL_act_369 rfl rfl ?_
  refine E_bipush (pc := 370) O (9 : Int32) dL_act_370 (by decide) ?_
  refine E_icmp_ne (pc := 372) O 379 dL_act_372 (by decide) hf (fun hf => ?_) (fun hf => ?_)
  · refine E_iconst (pc := 379) O (0 : Int32) dL_act_379 (by decide) ?_
    exact t_b_L_act_380 O Z h x0 x1 x5 x8 s0 s0 (0 : Int32) hf
  · refine E_iconst (pc := 375) O (1 : Int32) dL_act_375 (by decide) ?_
    refine E_goto (pc := 376) O 380 dL_act_376 (by decide) ?_
    exact t_b_L_act_380 O Z h x0 x1 x5 x8 s0 s0 (1 : Int32) hf
set_option maxHeartbeats 4000000 in
set_option maxRecDepth 100000 in
theorem t_b_L_act_664 {K : Cx} {out : (Int32 × MH)} (O : Ok K yL_act.cls cL_act 15 (rmm 6 152 1 7)) (Z : Out K (some .boolean) true (some (.int out.1)) out.2) (h : MH) (s0 : Int32) (hf : b_L_act_664 h s0 = some out) : EE K (true, 1, 7) 664 [none, none, none, none, none, none, none, none, none, none, none, none, none, none, none] [.int s0] h := by
  unfold b_L_act_664 at hf
  exact E_zret (pc := 664) O Z hf ⟨(Nat.le_of_ble_eq_true rfl), (Nat.le_of_ble_eq_true rfl)⟩ dL_act_664
set_option maxHeartbeats 4000000 in
set_option maxRecDepth 100000 in
theorem t_b_L_act_640 {K : Cx} {out : (Int32 × MH)} (O : Ok K yL_act.cls cL_act 15 (rmm 6 152 1 7)) (Z : Out K (some .boolean) true (some (.int out.1)) out.2) (rec535 : MH → Nat → Nat → Nat → Nat → Nat → Int32 → Int32 → Int32 → Option (Int32 × MH)) (hr535 : ∀ (h : MH) (x0 : Nat) (x5 : Nat) (x6 : Nat) (x7 : Nat) (x8 : Nat) (x9 : Int32) (x11 : Int32) (x12 : Int32), rec535 h x0 x5 x6 x7 x8 x9 x11 x12 = some out → EE K (true, 1, 7) 535 [some (.ref x0), none, none, none, none, some (.ref x5), some (.ref x6), some (.ref x7), some (.ref x8), some (.int x9), none, some (.int x11), some (.int x12), none, none] [] h) (h : MH) (x0 : Nat) (x5 : Nat) (x6 : Nat) (x7 : Nat) (x8 : Nat) (x9 : Int32) (x11 : Int32) (x12 : Int32) (hf : b_L_act_640 rec535 h x0 x5 x6 x7 x8 x9 x11 x12 = some out) : EE K (true, 1, 7) 640 [some (.ref x0), none, none, none, none, some (.ref x5), some (.ref x6), some (.ref x7), some (.ref x8), some (.int x9), none, some (.int x11), some (.int x12), none, none] [] h := by
  unfold b_L_act_640 at hf
  refine E_iinc (pc := 640) O (1 : Int32) [some (.ref x0), none, none, none, none, some (.ref x5), some (.ref x6), some (.ref x7), some (.ref x8), some (.int x9), none, some (.int x11), some (.int (x12 + (1 : Int32))), none, none] dL_act_640 rfl (by decide) rfl (by decide) rfl ?_
  refine E_goto (pc := 643) O 535 dL_act_643 (by decide) ?_
  exact hr535 h x0 x5 x6 x7 x8 x9 x11 (x12 + (1 : Int32)) hf
set_option maxHeartbeats 4000000 in
set_option maxRecDepth 100000 in
theorem t_b_L_act_607 {K : Cx} {out : (Int32 × MH)} (O : Ok K yL_act.cls cL_act 15 (rmm 6 152 1 7)) (Z : Out K (some .boolean) true (some (.int out.1)) out.2) (rec535 : MH → Nat → Nat → Nat → Nat → Nat → Int32 → Int32 → Int32 → Option (Int32 × MH)) (hr535 : ∀ (h : MH) (x0 : Nat) (x5 : Nat) (x6 : Nat) (x7 : Nat) (x8 : Nat) (x9 : Int32) (x11 : Int32) (x12 : Int32), rec535 h x0 x5 x6 x7 x8 x9 x11 x12 = some out → EE K (true, 1, 7) 535 [some (.ref x0), none, none, none, none, some (.ref x5), some (.ref x6), some (.ref x7), some (.ref x8), some (.int x9), none, some (.int x11), some (.int x12), none, none] [] h) (h : MH) (x0 : Nat) (x5 : Nat) (x6 : Nat) (x7 : Nat) (x8 : Nat) (x9 : Int32) (x11 : Int32) (x12 : Int32) (x13 : Int32) (hf : b_L_act_607 rec535 h x0 x5 x6 x7 x8 x9 x11 x12 x13 = some out) : EE K (true, 1, 7) 607 [some (.ref x0), none, none, none, none, some (.ref x5), some (.ref x6), some (.ref x7), some (.ref x8), some (.int x9), none, some (.int x11), some (.int x12), some (.int x13), none] [] h := by
  unfold b_L_act_607 at hf
  refine E_aload (pc := 607) O dL_act_607 rfl ?_
  refine E_iload (pc := 609) O dL_act_609 rfl ?_
  refine E_bipush (pc := 611) O (7 : Int32) dL_act_611 (by decide) ?_
  refine E_iadd (pc := 613) O dL_act_613 ?_
  refine E_iconst (pc := 614) O (0 : Int32) dL_act_614 (by decide) ?_
  refine E_iastore (pc := 615) O dL_act_615 hf (fun h25 hf => ?_)
  refine E_aload (pc := 616) O dL_act_616 rfl ?_
  refine E_iload (pc := 618) O dL_act_618 rfl ?_
  refine E_bipush (pc := 620) O (8 : Int32) dL_act_620 (by decide) ?_
  refine E_iadd (pc := 622) O dL_act_622 ?_
  refine E_iload (pc := 623) O dL_act_623 rfl ?_
  refine E_iastore (pc := 625) O dL_act_625 hf (fun h26 hf => ?_)
  refine E_iload (pc := 626) O dL_act_626 rfl ?_
  refine E_iconst (pc := 628) O (4 : Int32) dL_act_628 (by decide) ?_
  refine E_aload (pc := 629) O dL_act_629 rfl ?_
  refine E_aload (pc := 631) O dL_act_631 rfl ?_
  refine E_aload (pc := 633) O dL_act_633 rfl ?_
  refine E_aload (pc := 635) O dL_act_635 rfl ?_
  refine E_callS_v (pc := 637) (S := []) O [.int x12, .int (4 : Int32), .ref x5, .ref x6, .ref x7, .ref x8] CS_RailSequenceLaw_18 (fun r e => t_L_enter e) dL_act_637 hf rfl ⟨(Nat.le_of_ble_eq_true rfl), (Nat.le_of_ble_eq_true rfl)⟩ ⟨(Nat.le_of_ble_eq_true rfl), (Nat.le_of_ble_eq_true rfl)⟩ (Nat.le_of_ble_eq_true rfl) (fun h27 hf => ?_)
  exact E_sub (L' := [some (.ref x0), none, none, none, none, some (.ref x5), some (.ref x6), some (.ref x7), some (.ref x8), some (.int x9), none, some (.int x11), some (.int x12), none, none]) (And.intro rfl (And.intro rfl (And.intro rfl (And.intro rfl (And.intro rfl (And.intro rfl (And.intro rfl (And.intro rfl True.intro)))))))) (t_b_L_act_640 O Z _ hr535 h27 x0 x5 x6 x7 x8 x9 x11 x12 hf)
set_option maxHeartbeats 4000000 in
set_option maxRecDepth 100000 in
theorem t_b_L_act_535 {K : Cx} {out : (Int32 × MH)} (O : Ok K yL_act.cls cL_act 15 (rmm 6 152 1 7)) (Z : Out K (some .boolean) true (some (.int out.1)) out.2) (rec535 : MH → Nat → Nat → Nat → Nat → Nat → Int32 → Int32 → Int32 → Option (Int32 × MH)) (hr535 : ∀ (h : MH) (x0 : Nat) (x5 : Nat) (x6 : Nat) (x7 : Nat) (x8 : Nat) (x9 : Int32) (x11 : Int32) (x12 : Int32), rec535 h x0 x5 x6 x7 x8 x9 x11 x12 = some out → EE K (true, 1, 7) 535 [some (.ref x0), none, none, none, none, some (.ref x5), some (.ref x6), some (.ref x7), some (.ref x8), some (.int x9), none, some (.int x11), some (.int x12), none, none] [] h) (h : MH) (x0 : Nat) (x5 : Nat) (x6 : Nat) (x7 : Nat) (x8 : Nat) (x9 : Int32) (x11 : Int32) (x12 : Int32) (hf : b_L_act_535 rec535 h x0 x5 x6 x7 x8 x9 x11 x12 = some out) : EE K (true, 1, 7) 535 [some (.ref x0), none, none, none, none, some (.ref x5), some (.ref x6), some (.ref x7), some (.ref x8), some (.int x9), none, some (.int x11), some (.int x12), none, none] [] h := by
  unfold b_L_act_535 at hf
  refine E_iload (pc := 535) O dL_act_535 rfl ?_
  refine E_aload (pc := 537) O dL_act_537 rfl ?_
  refine E_iconst (pc := 539) O (0 : Int32) dL_act_539 (by decide) ?_
  refine E_iaload (pc := 540) O dL_act_540 hf (fun v28 hf => ?_)
  refine E_icmp_ge (pc := 541) O 646 dL_act_541 (by decide) hf (fun hf => ?_) (fun hf => ?_)
  · refine E_aload_n (pc := 646) O 0 dL_act_646 rfl rfl ?_
    refine E_iload (pc := 647) O dL_act_647 rfl ?_
    refine E_callV_i (pc := 649) (S := []) O [.int x9] CV_RailSequenceLaw_90 rfl (fun r e => t_X3_restart e) dL_act_649 hf rfl ⟨(Nat.le_of_ble_eq_true rfl), (Nat.le_of_ble_eq_true rfl)⟩ ⟨(Nat.le_of_ble_eq_true rfl), (Nat.le_of_ble_eq_true rfl)⟩ (Nat.le_of_ble_eq_true rfl) (fun p29 hf => ?_)
    refine E_aload (pc := 652) O dL_act_652 rfl ?_
    refine E_iconst (pc := 654) O (4 : Int32) dL_act_654 (by decide) ?_
    refine E_iaload (pc := 655) O dL_act_655 hf (fun v30 hf => ?_)
    refine E_icmp_ne (pc := 656) O 663 dL_act_656 (by decide) hf (fun hf => ?_) (fun hf => ?_)
    · refine E_iconst (pc := 663) O (0 : Int32) dL_act_663 (by decide) ?_
      exact E_sub (L' := [none, none, none, none, none, none, none, none, none, none, none, none, none, none, none]) True.intro (t_b_L_act_664 O Z p29.2 (0 : Int32) hf)
    · refine E_iconst (pc := 659) O (1 : Int32) dL_act_659 (by decide) ?_
      refine E_goto (pc := 660) O 664 dL_act_660 (by decide) ?_
      exact E_sub (L' := [none, none, none, none, none, none, none, none, none, none, none, none, none, none, none]) True.intro (t_b_L_act_664 O Z p29.2 (1 : Int32) hf)
  · refine E_bipush (pc := 544) O (9 : Int32) dL_act_544 (by decide) ?_
    refine E_iload (pc := 546) O dL_act_546 rfl ?_
    refine E_imul (pc := 548) O dL_act_548 ?_
    obtain ⟨v31, ev31, hf⟩ := ob hf
    have ev31 := os ev31
    rw [ev31]
    refine E_istore (pc := 549) O [some (.ref x0), none, none, none, none, some (.ref x5), some (.ref x6), some (.ref x7), some (.ref x8), some (.int x9), none, some (.int x11), some (.int x12), some (.int v31), none] dL_act_549 (by decide) rfl rfl ?_
    refine E_iload (pc := 551) O dL_act_551 rfl ?_
    refine E_iload (pc := 553) O dL_act_553 rfl ?_
    refine E_ishr (pc := 555) O dL_act_555 ?_
    refine E_iconst (pc := 556) O (1 : Int32) dL_act_556 (by decide) ?_
    refine E_iand (pc := 557) O dL_act_557 ?_
    refine E_if_eq (pc := 558) O 640 dL_act_558 (by decide) hf (fun hf => ?_) (fun hf => ?_)
    · exact E_sub (L' := [some (.ref x0), none, none, none, none, some (.ref x5), some (.ref x6), some (.ref x7), some (.ref x8), some (.int x9), none, some (.int x11), some (.int x12), none, none]) (And.intro rfl (And.intro rfl (And.intro rfl (And.intro rfl (And.intro rfl (And.intro rfl (And.intro rfl (And.intro rfl True.intro)))))))) (t_b_L_act_640 O Z _ hr535 h x0 x5 x6 x7 x8 x9 x11 x12 hf)
    · refine E_aload (pc := 561) O dL_act_561 rfl ?_
      refine E_iload (pc := 563) O dL_act_563 rfl ?_
      refine E_iconst (pc := 565) O (2 : Int32) dL_act_565 (by decide) ?_
      refine E_iadd (pc := 566) O dL_act_566 ?_
      refine E_iaload (pc := 567) O dL_act_567 hf (fun v32 hf => ?_)
      refine E_iconst (pc := 568) O (2 : Int32) dL_act_568 (by decide) ?_
      refine E_icmp_eq (pc := 569) O 607 dL_act_569 (by decide) hf (fun hf => ?_) (fun hf => ?_)
      · exact t_b_L_act_607 O Z _ hr535 h x0 x5 x6 x7 x8 x9 x11 x12 v31 hf
      · refine E_aload (pc := 572) O dL_act_572 rfl ?_
        refine E_iload (pc := 574) O dL_act_574 rfl ?_
        refine E_iconst (pc := 576) O (2 : Int32) dL_act_576 (by decide) ?_
        refine E_iadd (pc := 577) O dL_act_577 ?_
        refine E_iaload (pc := 578) O dL_act_578 hf (fun v33 hf => ?_)
        refine E_iconst (pc := 579) O (3 : Int32) dL_act_579 (by decide) ?_
        refine E_icmp_eq (pc := 580) O 607 dL_act_580 (by decide) hf (fun hf => ?_) (fun hf => ?_)
        · exact t_b_L_act_607 O Z _ hr535 h x0 x5 x6 x7 x8 x9 x11 x12 v31 hf
        · refine E_aload (pc := 583) O dL_act_583 rfl ?_
          refine E_iload (pc := 585) O dL_act_585 rfl ?_
          refine E_iconst (pc := 587) O (2 : Int32) dL_act_587 (by decide) ?_
          refine E_iadd (pc := 588) O dL_act_588 ?_
          refine E_iaload (pc := 589) O dL_act_589 hf (fun v34 hf => ?_)
          refine E_iconst (pc := 590) O (5 : Int32) dL_act_590 (by decide) ?_
          refine E_icmp_ne (pc := 591) O 640 dL_act_591 (by decide) hf (fun hf => ?_) (fun hf => ?_)
          · exact E_sub (L' := [some (.ref x0), none, none, none, none, some (.ref x5), some (.ref x6), some (.ref x7), some (.ref x8), some (.int x9), none, some (.int x11), some (.int x12), none, none]) (And.intro rfl (And.intro rfl (And.intro rfl (And.intro rfl (And.intro rfl (And.intro rfl (And.intro rfl (And.intro rfl True.intro)))))))) (t_b_L_act_640 O Z _ hr535 h x0 x5 x6 x7 x8 x9 x11 x12 hf)
          · refine E_aload (pc := 594) O dL_act_594 rfl ?_
            refine E_iload (pc := 596) O dL_act_596 rfl ?_
            refine E_iconst (pc := 598) O (1 : Int32) dL_act_598 (by decide) ?_
            refine E_iadd (pc := 599) O dL_act_599 ?_
            refine E_iaload (pc := 600) O dL_act_600 hf (fun v35 hf => ?_)
            refine E_if_ne (pc := 601) O 607 dL_act_601 (by decide) hf (fun hf => ?_) (fun hf => ?_)
            · exact t_b_L_act_607 O Z _ hr535 h x0 x5 x6 x7 x8 x9 x11 x12 v31 hf
            · refine E_goto (pc := 604) O 640 dL_act_604 (by decide) ?_
              exact E_sub (L' := [some (.ref x0), none, none, none, none, some (.ref x5), some (.ref x6), some (.ref x7), some (.ref x8), some (.int x9), none, some (.int x11), some (.int x12), none, none]) (And.intro rfl (And.intro rfl (And.intro rfl (And.intro rfl (And.intro rfl (And.intro rfl (And.intro rfl (And.intro rfl True.intro)))))))) (t_b_L_act_640 O Z _ hr535 h x0 x5 x6 x7 x8 x9 x11 x12 hf)
theorem t_f_L_act_535 {K : Cx} {out : (Int32 × MH)} (O : Ok K yL_act.cls cL_act 15 (rmm 6 152 1 7)) (Z : Out K (some .boolean) true (some (.int out.1)) out.2) : ∀ (n : Nat) (h : MH) (x0 : Nat) (x5 : Nat) (x6 : Nat) (x7 : Nat) (x8 : Nat) (x9 : Int32) (x11 : Int32) (x12 : Int32), f_L_act_535 n h x0 x5 x6 x7 x8 x9 x11 x12 = some out → EE K (true, 1, 7) 535 [some (.ref x0), none, none, none, none, some (.ref x5), some (.ref x6), some (.ref x7), some (.ref x8), some (.int x9), none, some (.int x11), some (.int x12), none, none] [] h := by
  intro n
  induction n with
  | zero => intro h x0 x5 x6 x7 x8 x9 x11 x12 hf; cases hf
  | succ n ih => intro h x0 x5 x6 x7 x8 x9 x11 x12 hf; exact t_b_L_act_535 O Z _ ih h x0 x5 x6 x7 x8 x9 x11 x12 hf
set_option maxHeartbeats 4000000 in
set_option maxRecDepth 100000 in
theorem t_b_L_act_716 {K : Cx} {out : (Int32 × MH)} (O : Ok K yL_act.cls cL_act 15 (rmm 6 152 1 7)) (Z : Out K (some .boolean) true (some (.int out.1)) out.2) (h : MH) (s0 : Int32) (hf : b_L_act_716 h s0 = some out) : EE K (true, 1, 7) 716 [none, none, none, none, none, none, none, none, none, none, none, none, none, none, none] [.int s0] h := by
  unfold b_L_act_716 at hf
  exact E_zret (pc := 716) O Z hf ⟨(Nat.le_of_ble_eq_true rfl), (Nat.le_of_ble_eq_true rfl)⟩ dL_act_716
set_option maxHeartbeats 4000000 in
set_option maxRecDepth 100000 in
theorem t_b_L_act_767 {K : Cx} {out : (Int32 × MH)} (O : Ok K yL_act.cls cL_act 15 (rmm 6 152 1 7)) (Z : Out K (some .boolean) true (some (.int out.1)) out.2) (h : MH) (s0 : Int32) (hf : b_L_act_767 h s0 = some out) : EE K (true, 1, 7) 767 [none, none, none, none, none, none, none, none, none, none, none, none, none, none, none] [.int s0] h := by
  unfold b_L_act_767 at hf
  exact E_zret (pc := 767) O Z hf ⟨(Nat.le_of_ble_eq_true rfl), (Nat.le_of_ble_eq_true rfl)⟩ dL_act_767
set_option maxHeartbeats 4000000 in
set_option maxRecDepth 100000 in
theorem t_b_L_act_844 {K : Cx} {out : (Int32 × MH)} (O : Ok K yL_act.cls cL_act 15 (rmm 6 152 1 7)) (Z : Out K (some .boolean) true (some (.int out.1)) out.2) (h : MH) (s0 : Int32) (hf : b_L_act_844 h s0 = some out) : EE K (true, 1, 7) 844 [none, none, none, none, none, none, none, none, none, none, none, none, none, none, none] [.int s0] h := by
  unfold b_L_act_844 at hf
  exact E_zret (pc := 844) O Z hf ⟨(Nat.le_of_ble_eq_true rfl), (Nat.le_of_ble_eq_true rfl)⟩ dL_act_844
set_option maxHeartbeats 4000000 in
set_option maxRecDepth 100000 in
theorem t_b_L_act_886 {K : Cx} {out : (Int32 × MH)} (O : Ok K yL_act.cls cL_act 15 (rmm 6 152 1 7)) (Z : Out K (some .boolean) true (some (.int out.1)) out.2) (h : MH) (s0 : Int32) (hf : b_L_act_886 h s0 = some out) : EE K (true, 1, 7) 886 [none, none, none, none, none, none, none, none, none, none, none, none, none, none, none] [.int s0] h := by
  unfold b_L_act_886 at hf
  exact E_zret (pc := 886) O Z hf ⟨(Nat.le_of_ble_eq_true rfl), (Nat.le_of_ble_eq_true rfl)⟩ dL_act_886
set_option maxHeartbeats 4000000 in
set_option maxRecDepth 100000 in
theorem t_b_L_act_955 {K : Cx} {out : (Int32 × MH)} (O : Ok K yL_act.cls cL_act 15 (rmm 6 152 1 7)) (Z : Out K (some .boolean) true (some (.int out.1)) out.2) (h : MH) (s0 : Int32) (hf : b_L_act_955 h s0 = some out) : EE K (true, 1, 7) 955 [none, none, none, none, none, none, none, none, none, none, none, none, none, none, none] [.int s0] h := by
  unfold b_L_act_955 at hf
  exact E_zret (pc := 955) O Z hf ⟨(Nat.le_of_ble_eq_true rfl), (Nat.le_of_ble_eq_true rfl)⟩ dL_act_955
set_option maxHeartbeats 4000000 in
set_option maxRecDepth 100000 in
theorem t_b_L_act_914 {K : Cx} {out : (Int32 × MH)} (O : Ok K yL_act.cls cL_act 15 (rmm 6 152 1 7)) (Z : Out K (some .boolean) true (some (.int out.1)) out.2) (h : MH) (x0 : Nat) (x3 : Int32) (x5 : Nat) (x9 : Int32) (x10 : Int32) (hf : b_L_act_914 h x0 x3 x5 x9 x10 = some out) : EE K (true, 1, 7) 914 [some (.ref x0), none, none, some (.int x3), none, some (.ref x5), none, none, none, some (.int x9), some (.int x10), none, none, none, none] [] h := by
  unfold b_L_act_914 at hf
  refine E_aload (pc := 914) O dL_act_914 rfl ?_
  refine E_iload (pc := 916) O dL_act_916 rfl ?_
  refine E_iaload (pc := 918) O dL_act_918 hf (fun v36 hf => ?_)
  refine E_istore (pc := 919) O [some (.ref x0), none, none, some (.int x3), none, some (.ref x5), none, none, none, some (.int x9), some (.int x10), some (.int v36), none, none, none] dL_act_919 (by decide) rfl rfl ?_
  refine E_aload (pc := 921) O dL_act_921 rfl ?_
  refine E_iload (pc := 923) O dL_act_923 rfl ?_
  refine E_iload_n (pc := 925) O 3 dL_act_925 rfl rfl ?_
  refine E_iconst (pc := 926) O (1 : Int32) dL_act_926 (by decide) ?_
  refine E_iload (pc := 927) O dL_act_927 rfl ?_
  refine E_ishl (pc := 929) O dL_act_929 ?_
  refine E_callS_iP (pc := 930) (S := [.int x10, .ref x5]) O [.int x3, .int ((1 : Int32) <<< (x9 &&& 31))] CS_RailSequenceLaw_61 (fun r e => t_L_at e) dL_act_930 hf rfl ⟨(Nat.le_of_ble_eq_true rfl), (Nat.le_of_ble_eq_true rfl)⟩ ⟨(Nat.le_of_ble_eq_true rfl), (Nat.le_of_ble_eq_true rfl)⟩ (Nat.le_of_ble_eq_true rfl) (fun v37 hf => ?_)
  refine E_iastore (pc := 933) O dL_act_933 hf (fun h38 hf => ?_)
  refine E_aload_n (pc := 934) O 0 dL_act_934 rfl rfl ?_
  refine E_iload (pc := 935) O dL_act_935 rfl ?_
  refine E_aload (pc := 937) O dL_act_937 rfl ?_
  refine E_iload (pc := 939) O dL_act_939 rfl ?_
  refine E_iaload (pc := 941) O dL_act_941 hf (fun v39 hf => ?_)
  refine E_callV_i (pc := 942) (S := []) O [.int x9, .int v39] CV_RailSequenceLaw_105 rfl (fun r e => t_X3_setNeeds e) dL_act_942 hf rfl ⟨(Nat.le_of_ble_eq_true rfl), (Nat.le_of_ble_eq_true rfl)⟩ ⟨(Nat.le_of_ble_eq_true rfl), (Nat.le_of_ble_eq_true rfl)⟩ (Nat.le_of_ble_eq_true rfl) (fun p40 hf => ?_)
  refine E_iload (pc := 945) O dL_act_945 rfl ?_
  refine E_icmp_ne (pc := 947) O 954 dL_act_947 (by decide) hf (fun hf => ?_) (fun hf => ?_)
  · refine E_iconst (pc := 954) O (0 : Int32) dL_act_954 (by decide) ?_
    exact E_sub (L' := [none, none, none, none, none, none, none, none, none, none, none, none, none, none, none]) True.intro (t_b_L_act_955 O Z p40.2 (0 : Int32) hf)
  · refine E_iconst (pc := 950) O (1 : Int32) dL_act_950 (by decide) ?_
    refine E_goto (pc := 951) O 955 dL_act_951 (by decide) ?_
    exact E_sub (L' := [none, none, none, none, none, none, none, none, none, none, none, none, none, none, none]) True.intro (t_b_L_act_955 O Z p40.2 (1 : Int32) hf)
set_option maxHeartbeats 4000000 in
set_option maxRecDepth 100000 in
theorem t_b_L_act_1038 {K : Cx} {out : (Int32 × MH)} (O : Ok K yL_act.cls cL_act 15 (rmm 6 152 1 7)) (Z : Out K (some .boolean) true (some (.int out.1)) out.2) (rec976 : MH → Nat → Nat → Nat → Int32 → Int32 → Int32 → Int32 → Option (Int32 × MH)) (hr976 : ∀ (h : MH) (x0 : Nat) (x7 : Nat) (x8 : Nat) (x9 : Int32) (x11 : Int32) (x12 : Int32) (x13 : Int32), rec976 h x0 x7 x8 x9 x11 x12 x13 = some out → EE K (true, 1, 7) 976 [some (.ref x0), none, none, none, none, none, none, some (.ref x7), some (.ref x8), some (.int x9), none, some (.int x11), some (.int x12), some (.int x13), none] [] h) (h : MH) (x0 : Nat) (x7 : Nat) (x8 : Nat) (x9 : Int32) (x11 : Int32) (x12 : Int32) (x13 : Int32) (hf : b_L_act_1038 rec976 h x0 x7 x8 x9 x11 x12 x13 = some out) : EE K (true, 1, 7) 1038 [some (.ref x0), none, none, none, none, none, none, some (.ref x7), some (.ref x8), some (.int x9), none, some (.int x11), some (.int x12), some (.int x13), none] [] h := by
  unfold b_L_act_1038 at hf
  refine E_iinc (pc := 1038) O (1 : Int32) [some (.ref x0), none, none, none, none, none, none, some (.ref x7), some (.ref x8), some (.int x9), none, some (.int x11), some (.int x12), some (.int (x13 + (1 : Int32))), none] dL_act_1038 rfl (by decide) rfl (by decide) rfl ?_
  refine E_goto (pc := 1041) O 976 dL_act_1041 (by decide) ?_
  exact hr976 h x0 x7 x8 x9 x11 x12 (x13 + (1 : Int32)) hf
set_option maxHeartbeats 4000000 in
set_option maxRecDepth 100000 in
theorem t_b_L_act_1003 {K : Cx} {out : (Int32 × MH)} (O : Ok K yL_act.cls cL_act 15 (rmm 6 152 1 7)) (Z : Out K (some .boolean) true (some (.int out.1)) out.2) (rec976 : MH → Nat → Nat → Nat → Int32 → Int32 → Int32 → Int32 → Option (Int32 × MH)) (hr976 : ∀ (h : MH) (x0 : Nat) (x7 : Nat) (x8 : Nat) (x9 : Int32) (x11 : Int32) (x12 : Int32) (x13 : Int32), rec976 h x0 x7 x8 x9 x11 x12 x13 = some out → EE K (true, 1, 7) 976 [some (.ref x0), none, none, none, none, none, none, some (.ref x7), some (.ref x8), some (.int x9), none, some (.int x11), some (.int x12), some (.int x13), none] [] h) (rec1003 : MH → Nat → Nat → Nat → Int32 → Int32 → Int32 → Int32 → Int32 → Option (Int32 × MH)) (hr1003 : ∀ (h : MH) (x0 : Nat) (x7 : Nat) (x8 : Nat) (x9 : Int32) (x11 : Int32) (x12 : Int32) (x13 : Int32) (x14 : Int32), rec1003 h x0 x7 x8 x9 x11 x12 x13 x14 = some out → EE K (true, 1, 7) 1003 [some (.ref x0), none, none, none, none, none, none, some (.ref x7), some (.ref x8), some (.int x9), none, some (.int x11), some (.int x12), some (.int x13), some (.int x14)] [] h) (h : MH) (x0 : Nat) (x7 : Nat) (x8 : Nat) (x9 : Int32) (x11 : Int32) (x12 : Int32) (x13 : Int32) (x14 : Int32) (hf : b_L_act_1003 rec976 rec1003 h x0 x7 x8 x9 x11 x12 x13 x14 = some out) : EE K (true, 1, 7) 1003 [some (.ref x0), none, none, none, none, none, none, some (.ref x7), some (.ref x8), some (.int x9), none, some (.int x11), some (.int x12), some (.int x13), some (.int x14)] [] h := by
  unfold b_L_act_1003 at hf
  refine E_iload (pc := 1003) O dL_act_1003 rfl ?_
  refine E_iconst (pc := 1005) O (4 : Int32) dL_act_1005 (by decide) ?_
  refine E_icmp_ge (pc := 1006) O 1035 dL_act_1006 (by decide) hf (fun hf => ?_) (fun hf => ?_)
  · refine E_iinc (pc := 1035) O (1 : Int32) [some (.ref x0), none, none, none, none, none, none, some (.ref x7), some (.ref x8), some (.int x9), none, some (.int (x11 + (1 : Int32))), some (.int x12), some (.int x13), some (.int x14)] dL_act_1035 rfl (by decide) rfl (by decide) rfl ?_
    exact E_sub (L' := [some (.ref x0), none, none, none, none, none, none, some (.ref x7), some (.ref x8), some (.int x9), none, some (.int (x11 + (1 : Int32))), some (.int x12), some (.int x13), none]) (And.intro rfl (And.intro rfl (And.intro rfl (And.intro rfl (And.intro rfl (And.intro rfl (And.intro rfl True.intro))))))) (t_b_L_act_1038 O Z _ hr976 h x0 x7 x8 x9 (x11 + (1 : Int32)) x12 x13 hf)
  · refine E_aload (pc := 1009) O dL_act_1009 rfl ?_
    refine E_iconst (pc := 1011) O (4 : Int32) dL_act_1011 (by decide) ?_
    refine E_iload (pc := 1012) O dL_act_1012 rfl ?_
    refine E_imul (pc := 1014) O dL_act_1014 ?_
    refine E_iload (pc := 1015) O dL_act_1015 rfl ?_
    refine E_iadd (pc := 1017) O dL_act_1017 ?_
    refine E_aload (pc := 1018) O dL_act_1018 rfl ?_
    refine E_iconst (pc := 1020) O (4 : Int32) dL_act_1020 (by decide) ?_
    refine E_iload (pc := 1021) O dL_act_1021 rfl ?_
    refine E_imul (pc := 1023) O dL_act_1023 ?_
    refine E_iload (pc := 1024) O dL_act_1024 rfl ?_
    refine E_iadd (pc := 1026) O dL_act_1026 ?_
    refine E_iaload (pc := 1027) O dL_act_1027 hf (fun v41 hf => ?_)
    refine E_iastore (pc := 1028) O dL_act_1028 hf (fun h42 hf => ?_)
    refine E_iinc (pc := 1029) O (1 : Int32) [some (.ref x0), none, none, none, none, none, none, some (.ref x7), some (.ref x8), some (.int x9), none, some (.int x11), some (.int x12), some (.int x13), some (.int (x14 + (1 : Int32)))] dL_act_1029 rfl (by decide) rfl (by decide) rfl ?_
    refine E_goto (pc := 1032) O 1003 dL_act_1032 (by decide) ?_
    exact hr1003 h42 x0 x7 x8 x9 x11 x12 x13 (x14 + (1 : Int32)) hf
theorem t_f_L_act_1003 {K : Cx} {out : (Int32 × MH)} (O : Ok K yL_act.cls cL_act 15 (rmm 6 152 1 7)) (Z : Out K (some .boolean) true (some (.int out.1)) out.2) (rec976 : MH → Nat → Nat → Nat → Int32 → Int32 → Int32 → Int32 → Option (Int32 × MH)) (hr976 : ∀ (h : MH) (x0 : Nat) (x7 : Nat) (x8 : Nat) (x9 : Int32) (x11 : Int32) (x12 : Int32) (x13 : Int32), rec976 h x0 x7 x8 x9 x11 x12 x13 = some out → EE K (true, 1, 7) 976 [some (.ref x0), none, none, none, none, none, none, some (.ref x7), some (.ref x8), some (.int x9), none, some (.int x11), some (.int x12), some (.int x13), none] [] h) : ∀ (n : Nat) (h : MH) (x0 : Nat) (x7 : Nat) (x8 : Nat) (x9 : Int32) (x11 : Int32) (x12 : Int32) (x13 : Int32) (x14 : Int32), f_L_act_1003 rec976 n h x0 x7 x8 x9 x11 x12 x13 x14 = some out → EE K (true, 1, 7) 1003 [some (.ref x0), none, none, none, none, none, none, some (.ref x7), some (.ref x8), some (.int x9), none, some (.int x11), some (.int x12), some (.int x13), some (.int x14)] [] h := by
  intro n
  induction n with
  | zero => intro h x0 x7 x8 x9 x11 x12 x13 x14 hf; cases hf
  | succ n ih => intro h x0 x7 x8 x9 x11 x12 x13 x14 hf; exact t_b_L_act_1003 O Z _ hr976 _ ih h x0 x7 x8 x9 x11 x12 x13 x14 hf
set_option maxHeartbeats 4000000 in
set_option maxRecDepth 100000 in
theorem t_b_L_act_1069 {K : Cx} {out : (Int32 × MH)} (O : Ok K yL_act.cls cL_act 15 (rmm 6 152 1 7)) (Z : Out K (some .boolean) true (some (.int out.1)) out.2) (h : MH) (s0 : Int32) (hf : b_L_act_1069 h s0 = some out) : EE K (true, 1, 7) 1069 [none, none, none, none, none, none, none, none, none, none, none, none, none, none, none] [.int s0] h := by
  unfold b_L_act_1069 at hf
  exact E_zret (pc := 1069) O Z hf ⟨(Nat.le_of_ble_eq_true rfl), (Nat.le_of_ble_eq_true rfl)⟩ dL_act_1069
set_option maxHeartbeats 4000000 in
set_option maxRecDepth 100000 in
theorem t_b_L_act_976 {K : Cx} {out : (Int32 × MH)} (O : Ok K yL_act.cls cL_act 15 (rmm 6 152 1 7)) (Z : Out K (some .boolean) true (some (.int out.1)) out.2) (rec976 : MH → Nat → Nat → Nat → Int32 → Int32 → Int32 → Int32 → Option (Int32 × MH)) (hr976 : ∀ (h : MH) (x0 : Nat) (x7 : Nat) (x8 : Nat) (x9 : Int32) (x11 : Int32) (x12 : Int32) (x13 : Int32), rec976 h x0 x7 x8 x9 x11 x12 x13 = some out → EE K (true, 1, 7) 976 [some (.ref x0), none, none, none, none, none, none, some (.ref x7), some (.ref x8), some (.int x9), none, some (.int x11), some (.int x12), some (.int x13), none] [] h) (h : MH) (x0 : Nat) (x7 : Nat) (x8 : Nat) (x9 : Int32) (x11 : Int32) (x12 : Int32) (x13 : Int32) (hf : b_L_act_976 rec976 h x0 x7 x8 x9 x11 x12 x13 = some out) : EE K (true, 1, 7) 976 [some (.ref x0), none, none, none, none, none, none, some (.ref x7), some (.ref x8), some (.int x9), none, some (.int x11), some (.int x12), some (.int x13), none] [] h := by
  unfold b_L_act_976 at hf
  refine E_iload (pc := 976) O dL_act_976 rfl ?_
  refine E_iload (pc := 978) O dL_act_978 rfl ?_
  refine E_icmp_ge (pc := 980) O 1044 dL_act_980 (by decide) hf (fun hf => ?_) (fun hf => ?_)
  · refine E_aload (pc := 1044) O dL_act_1044 rfl ?_
    refine E_iconst (pc := 1046) O (3 : Int32) dL_act_1046 (by decide) ?_
    refine E_iload (pc := 1047) O dL_act_1047 rfl ?_
    refine E_iastore (pc := 1049) O dL_act_1049 hf (fun h43 hf => ?_)
    refine E_aload_n (pc := 1050) O 0 dL_act_1050 rfl rfl ?_
    refine E_iload (pc := 1051) O dL_act_1051 rfl ?_
    refine E_callV_i (pc := 1053) (S := []) O [.int x9] CV_RailSequenceLaw_108 rfl (fun r e => t_X3_forget e) dL_act_1053 hf rfl ⟨(Nat.le_of_ble_eq_true rfl), (Nat.le_of_ble_eq_true rfl)⟩ ⟨(Nat.le_of_ble_eq_true rfl), (Nat.le_of_ble_eq_true rfl)⟩ (Nat.le_of_ble_eq_true rfl) (fun p44 hf => ?_)
    refine E_iload (pc := 1056) O dL_act_1056 rfl ?_
    refine E_iload (pc := 1058) O dL_act_1058 rfl ?_
    refine E_isub (pc := 1060) O dL_act_1060 ?_
    refine E_icmp_ne (pc := 1061) O 1068 dL_act_1061 (by decide) hf (fun hf => ?_) (fun hf => ?_)
    · refine E_iconst (pc := 1068) O (0 : Int32) dL_act_1068 (by decide) ?_
      exact E_sub (L' := [none, none, none, none, none, none, none, none, none, none, none, none, none, none, none]) True.intro (t_b_L_act_1069 O Z p44.2 (0 : Int32) hf)
    · refine E_iconst (pc := 1064) O (1 : Int32) dL_act_1064 (by decide) ?_
      refine E_goto (pc := 1065) O 1069 dL_act_1065 (by decide) ?_
      exact E_sub (L' := [none, none, none, none, none, none, none, none, none, none, none, none, none, none, none]) True.intro (t_b_L_act_1069 O Z p44.2 (1 : Int32) hf)
  · refine E_aload (pc := 983) O dL_act_983 rfl ?_
    refine E_iconst (pc := 985) O (4 : Int32) dL_act_985 (by decide) ?_
    refine E_iload (pc := 986) O dL_act_986 rfl ?_
    refine E_imul (pc := 988) O dL_act_988 ?_
    refine E_iconst (pc := 989) O (1 : Int32) dL_act_989 (by decide) ?_
    refine E_iadd (pc := 990) O dL_act_990 ?_
    refine E_iaload (pc := 991) O dL_act_991 hf (fun v45 hf => ?_)
    refine E_iload (pc := 992) O dL_act_992 rfl ?_
    refine E_icmp_ne (pc := 994) O 1000 dL_act_994 (by decide) hf (fun hf => ?_) (fun hf => ?_)
    · refine E_iconst (pc := 1000) O (0 : Int32) dL_act_1000 (by decide) ?_
      refine E_istore (pc := 1001) O [some (.ref x0), none, none, none, none, none, none, some (.ref x7), some (.ref x8), some (.int x9), none, some (.int x11), some (.int x12), some (.int x13), some (.int (0 : Int32))] dL_act_1001 (by decide) rfl rfl ?_
      exact t_f_L_act_1003 O Z _ hr976 FU h x0 x7 x8 x9 x11 x12 x13 (0 : Int32) hf
    · refine E_goto (pc := 997) O 1038 dL_act_997 (by decide) ?_
      exact t_b_L_act_1038 O Z _ hr976 h x0 x7 x8 x9 x11 x12 x13 hf
theorem t_f_L_act_976 {K : Cx} {out : (Int32 × MH)} (O : Ok K yL_act.cls cL_act 15 (rmm 6 152 1 7)) (Z : Out K (some .boolean) true (some (.int out.1)) out.2) : ∀ (n : Nat) (h : MH) (x0 : Nat) (x7 : Nat) (x8 : Nat) (x9 : Int32) (x11 : Int32) (x12 : Int32) (x13 : Int32), f_L_act_976 n h x0 x7 x8 x9 x11 x12 x13 = some out → EE K (true, 1, 7) 976 [some (.ref x0), none, none, none, none, none, none, some (.ref x7), some (.ref x8), some (.int x9), none, some (.int x11), some (.int x12), some (.int x13), none] [] h := by
  intro n
  induction n with
  | zero => intro h x0 x7 x8 x9 x11 x12 x13 hf; cases hf
  | succ n ih => intro h x0 x7 x8 x9 x11 x12 x13 hf; exact t_b_L_act_976 O Z _ ih h x0 x7 x8 x9 x11 x12 x13 hf
set_option maxHeartbeats 4000000 in
set_option maxRecDepth 100000 in
theorem t_b_L_act_956 {K : Cx} {out : (Int32 × MH)} (O : Ok K yL_act.cls cL_act 15 (rmm 6 152 1 7)) (Z : Out K (some .boolean) true (some (.int out.1)) out.2) (h : MH) (x0 : Nat) (x1 : Int32) (x7 : Nat) (x8 : Nat) (x9 : Int32) (hf : b_L_act_956 h x0 x1 x7 x8 x9 = some out) : EE K (true, 1, 7) 956 [some (.ref x0), some (.int x1), none, none, none, none, none, some (.ref x7), some (.ref x8), some (.int x9), none, none, none, none, none] [] h := by
  unfold b_L_act_956 at hf
  refine E_iload_n (pc := 956) O 1 dL_act_956 rfl rfl ?_
  refine E_bipush (pc := 957) O (17 : Int32) dL_act_957 (by decide) ?_
  refine E_icmp_ge (pc := 959) O 964 dL_act_959 (by decide) hf (fun hf => ?_) (fun hf => ?_)
  · refine E_iconst (pc := 964) O (0 : Int32) dL_act_964 (by decide) ?_
    refine E_istore (pc := 965) O [some (.ref x0), some (.int x1), none, none, none, none, none, some (.ref x7), some (.ref x8), some (.int x9), none, some (.int (0 : Int32)), none, none, none] dL_act_965 (by decide) rfl rfl ?_
    refine E_aload (pc := 967) O dL_act_967 rfl ?_
    refine E_iconst (pc := 969) O (3 : Int32) dL_act_969 (by decide) ?_
    refine E_iaload (pc := 970) O dL_act_970 hf (fun v46 hf => ?_)
    refine E_istore (pc := 971) O [some (.ref x0), some (.int x1), none, none, none, none, none, some (.ref x7), some (.ref x8), some (.int x9), none, some (.int (0 : Int32)), some (.int v46), none, none] dL_act_971 (by decide) rfl rfl ?_
    refine E_iconst (pc := 973) O (0 : Int32) dL_act_973 (by decide) ?_
    refine E_istore (pc := 974) O [some (.ref x0), some (.int x1), none, none, none, none, none, some (.ref x7), some (.ref x8), some (.int x9), none, some (.int (0 : Int32)), some (.int v46), some (.int (0 : Int32)), none] dL_act_974 (by decide) rfl rfl ?_
    exact E_sub (L' := [some (.ref x0), none, none, none, none, none, none, some (.ref x7), some (.ref x8), some (.int x9), none, some (.int (0 : Int32)), some (.int v46), some (.int (0 : Int32)), none]) (And.intro rfl (And.intro rfl (And.intro rfl (And.intro rfl (And.intro rfl (And.intro rfl (And.intro rfl True.intro))))))) (t_f_L_act_976 O Z FU h x0 x7 x8 x9 (0 : Int32) v46 (0 : Int32) hf)
  · refine E_iconst (pc := 962) O (1 : Int32) dL_act_962 (by decide) ?_
    exact E_zret (pc := 963) O Z hf ⟨(Nat.le_of_ble_eq_true rfl), (Nat.le_of_ble_eq_true rfl)⟩ dL_act_963
set_option maxHeartbeats 4000000 in
set_option maxRecDepth 100000 in
theorem t_L_act {g : Gx} {h : MH} {x0 x1 x2 x3 x4 x5 x6 x7 x8} {out : (Int32 × MH)} (hf : f_L_act h x0 x1 x2 x3 x4 x5 x6 x7 x8 = some out) : MM g yL_act cL_act 15 (some .boolean) 6 152 1 7 true true [.ref x0, .int x1, .int x2, .int x3, .ref x4, .ref x5, .ref x6, .ref x7, .ref x8] h (some (.int out.1)) out.2 := by
  unfold f_L_act at hf
  refine MM_of (L := [some (.ref x0), some (.int x1), some (.int x2), some (.int x3), some (.ref x4), some (.ref x5), some (.ref x6), some (.ref x7), some (.ref x8), none, none, none, none, none, none]) (by decide) (Nat.le_of_ble_eq_true rfl) rfl (fun K hK O Z hn => ?_)
  refine E_iload_n (pc := 0) O 1 dL_act_0 rfl rfl ?_
  refine E_iconst (pc := 1) O (2 : Int32) dL_act_1 (by decide) ?_
  refine E_icmp_ge (pc := 2) O 226 dL_act_2 (by decide) hf (fun hf => ?_) (fun hf => ?_)
  · refine E_iload_n (pc := 226) O 1 dL_act_226 rfl rfl ?_
    refine E_bipush (pc := 227) O (7 : Int32) dL_act_227 (by decide) ?_
    refine E_icmp_ge (pc := 229) O 308 dL_act_229 (by decide) hf (fun hf => ?_) (fun hf => ?_)
    · refine E_iload_n (pc := 308) O 1 dL_act_308 rfl rfl ?_
      refine E_bipush (pc := 309) O (10 : Int32) dL_act_309 (by decide) ?_
      refine E_icmp_ge (pc := 311) O 478 dL_act_311 (by decide) hf (fun hf => ?_) (fun hf => ?_)
      · refine E_iload_n (pc := 478) O 2 dL_act_478 rfl rfl ?_
        refine E_aload (pc := 479) O dL_act_479 rfl ?_
        refine E_iconst (pc := 481) O (0 : Int32) dL_act_481 (by decide) ?_
        refine E_iaload (pc := 482) O dL_act_482 hf (fun v47 hf => ?_)
        refine E_callS_iP (pc := 483) (S := []) O [.int x2, .int v47] CS_RailSequenceLaw_61 (fun r e => t_L_at e) dL_act_483 hf rfl ⟨(Nat.le_of_ble_eq_true rfl), (Nat.le_of_ble_eq_true rfl)⟩ ⟨(Nat.le_of_ble_eq_true rfl), (Nat.le_of_ble_eq_true rfl)⟩ (Nat.le_of_ble_eq_true rfl) (fun v48 hf => ?_)
        refine E_istore (pc := 486) O [some (.ref x0), some (.int x1), some (.int x2), some (.int x3), some (.ref x4), some (.ref x5), some (.ref x6), some (.ref x7), some (.ref x8), some (.int v48), none, none, none, none, none] dL_act_486 (by decide) rfl rfl ?_
        refine E_bipush (pc := 488) O (9 : Int32) dL_act_488 (by decide) ?_
        refine E_iload (pc := 490) O dL_act_490 rfl ?_
        refine E_imul (pc := 492) O dL_act_492 ?_
        obtain ⟨v49, ev49, hf⟩ := ob hf
        have ev49 := os ev49
        rw [ev49]
        refine E_istore (pc := 493) O [some (.ref x0), some (.int x1), some (.int x2), some (.int x3), some (.ref x4), some (.ref x5), some (.ref x6), some (.ref x7), some (.ref x8), some (.int v48), some (.int v49), none, none, none, none] dL_act_493 (by decide) rfl rfl ?_
        refine E_iload_n (pc := 495) O 1 dL_act_495 rfl rfl ?_
        refine E_bipush (pc := 496) O (10 : Int32) dL_act_496 (by decide) ?_
        refine E_icmp_ne (pc := 498) O 665 dL_act_498 (by decide) hf (fun hf => ?_) (fun hf => ?_)
        · refine E_iload_n (pc := 665) O 1 dL_act_665 rfl rfl ?_
          refine E_bipush (pc := 666) O (11 : Int32) dL_act_666 (by decide) ?_
          refine E_icmp_ne (pc := 668) O 717 dL_act_668 (by decide) hf (fun hf => ?_) (fun hf => ?_)
          · refine E_iload_n (pc := 717) O 1 dL_act_717 rfl rfl ?_
            refine E_bipush (pc := 718) O (12 : Int32) dL_act_718 (by decide) ?_
            refine E_icmp_ne (pc := 720) O 768 dL_act_720 (by decide) hf (fun hf => ?_) (fun hf => ?_)
            · refine E_iload_n (pc := 768) O 1 dL_act_768 rfl rfl ?_
              refine E_bipush (pc := 769) O (15 : Int32) dL_act_769 (by decide) ?_
              refine E_icmp_ge (pc := 771) O 845 dL_act_771 (by decide) hf (fun hf => ?_) (fun hf => ?_)
              · refine E_iload_n (pc := 845) O 1 dL_act_845 rfl rfl ?_
                refine E_bipush (pc := 846) O (15 : Int32) dL_act_846 (by decide) ?_
                refine E_icmp_ne (pc := 848) O 887 dL_act_848 (by decide) hf (fun hf => ?_) (fun hf => ?_)
                · refine E_iload_n (pc := 887) O 1 dL_act_887 rfl rfl ?_
                  refine E_bipush (pc := 888) O (16 : Int32) dL_act_888 (by decide) ?_
                  refine E_icmp_ne (pc := 890) O 956 dL_act_890 (by decide) hf (fun hf => ?_) (fun hf => ?_)
                  · refine E_widen (cs := 1) (ss := 7) (Nat.le_of_ble_eq_true rfl) (Nat.le_of_ble_eq_true rfl) ?_
                    exact E_sub (L' := [some (.ref x0), some (.int x1), none, none, none, none, none, some (.ref x7), some (.ref x8), some (.int v48), none, none, none, none, none]) (And.intro rfl (And.intro rfl (And.intro rfl (And.intro rfl (And.intro rfl True.intro))))) (t_b_L_act_956 O Z h x0 x1 x7 x8 v48 hf)
                  · refine E_aload (pc := 893) O dL_act_893 rfl ?_
                    refine E_iload (pc := 895) O dL_act_895 rfl ?_
                    refine E_iconst (pc := 897) O (2 : Int32) dL_act_897 (by decide) ?_
                    refine E_iadd (pc := 898) O dL_act_898 ?_
                    refine E_iaload (pc := 899) O dL_act_899 hf (fun v50 hf => ?_)
                    refine E_if_eq (pc := 900) O 914 dL_act_900 (by decide) hf (fun hf => ?_) (fun hf => ?_)
                    · refine E_widen (cs := 1) (ss := 7) (Nat.le_of_ble_eq_true rfl) (Nat.le_of_ble_eq_true rfl) ?_
                      exact E_sub (L' := [some (.ref x0), none, none, some (.int x3), none, some (.ref x5), none, none, none, some (.int v48), some (.int v49), none, none, none, none]) (And.intro rfl (And.intro rfl (And.intro rfl (And.intro rfl (And.intro rfl True.intro))))) (t_b_L_act_914 O Z h x0 x3 x5 v48 v49 hf)
                    · refine E_aload (pc := 903) O dL_act_903 rfl ?_
                      refine E_iload (pc := 905) O dL_act_905 rfl ?_
                      refine E_iconst (pc := 907) O (2 : Int32) dL_act_907 (by decide) ?_
                      refine E_iadd (pc := 908) O dL_act_908 ?_
                      refine E_iaload (pc := 909) O dL_act_909 hf (fun v51 hf => ?_)
                      refine E_iconst (pc := 910) O (5 : Int32) dL_act_910 (by decide) ?_
                      refine E_icmp_ne (pc := 911) O 956 dL_act_911 (by decide) hf (fun hf => ?_) (fun hf => ?_)
                      · refine E_widen (cs := 1) (ss := 7) (Nat.le_of_ble_eq_true rfl) (Nat.le_of_ble_eq_true rfl) ?_
                        exact E_sub (L' := [some (.ref x0), some (.int x1), none, none, none, none, none, some (.ref x7), some (.ref x8), some (.int v48), none, none, none, none, none]) (And.intro rfl (And.intro rfl (And.intro rfl (And.intro rfl (And.intro rfl True.intro))))) (t_b_L_act_956 O Z h x0 x1 x7 x8 v48 hf)
                      · refine E_widen (cs := 1) (ss := 7) (Nat.le_of_ble_eq_true rfl) (Nat.le_of_ble_eq_true rfl) ?_
                        exact E_sub (L' := [some (.ref x0), none, none, some (.int x3), none, some (.ref x5), none, none, none, some (.int v48), some (.int v49), none, none, none, none]) (And.intro rfl (And.intro rfl (And.intro rfl (And.intro rfl (And.intro rfl True.intro))))) (t_b_L_act_914 O Z h x0 x3 x5 v48 v49 hf)
                · refine E_aload (pc := 851) O dL_act_851 rfl ?_
                  refine E_iconst (pc := 853) O (1 : Int32) dL_act_853 (by decide) ?_
                  refine E_iaload (pc := 854) O dL_act_854 hf (fun v52 hf => ?_)
                  refine E_istore (pc := 855) O [some (.ref x0), some (.int x1), some (.int x2), some (.int x3), some (.ref x4), some (.ref x5), some (.ref x6), some (.ref x7), some (.ref x8), some (.int v48), some (.int v49), some (.int v52), none, none, none] dL_act_855 (by decide) rfl rfl ?_
                  refine E_aload (pc := 857) O dL_act_857 rfl ?_
                  refine E_iconst (pc := 859) O (1 : Int32) dL_act_859 (by decide) ?_
                  refine E_iload_n (pc := 860) O 3 dL_act_860 rfl rfl ?_
                  refine E_sipush (pc := 861) O (501 : Int32) dL_act_861 (by decide) ?_
                  refine E_callS_iP (pc := 864) (S := [.int (1 : Int32), .ref x8]) O [.int x3, .int (501 : Int32)] CS_RailSequenceLaw_61 (fun r e => t_L_at e) dL_act_864 hf rfl ⟨(Nat.le_of_ble_eq_true rfl), (Nat.le_of_ble_eq_true rfl)⟩ ⟨(Nat.le_of_ble_eq_true rfl), (Nat.le_of_ble_eq_true rfl)⟩ (Nat.le_of_ble_eq_true rfl) (fun v53 hf => ?_)
                  refine E_iastore (pc := 867) O dL_act_867 hf (fun h54 hf => ?_)
                  refine E_aload_n (pc := 868) O 0 dL_act_868 rfl rfl ?_
                  refine E_aload (pc := 869) O dL_act_869 rfl ?_
                  refine E_iconst (pc := 871) O (1 : Int32) dL_act_871 (by decide) ?_
                  refine E_iaload (pc := 872) O dL_act_872 hf (fun v55 hf => ?_)
                  refine E_callV_i (pc := 873) (S := []) O [.int v55] CV_RailSequenceLaw_102 rfl (fun r e => t_X3_setResidue e) dL_act_873 hf rfl ⟨(Nat.le_of_ble_eq_true rfl), (Nat.le_of_ble_eq_true rfl)⟩ ⟨(Nat.le_of_ble_eq_true rfl), (Nat.le_of_ble_eq_true rfl)⟩ (Nat.le_of_ble_eq_true rfl) (fun p56 hf => ?_)
                  refine E_iload (pc := 876) O dL_act_876 rfl ?_
                  refine E_icmp_ne (pc := 878) O 885 dL_act_878 (by decide) hf (fun hf => ?_) (fun hf => ?_)
                  · refine E_iconst (pc := 885) O (0 : Int32) dL_act_885 (by decide) ?_
                    refine E_widen (cs := 1) (ss := 7) (Nat.le_of_ble_eq_true rfl) (Nat.le_of_ble_eq_true rfl) ?_
                    exact E_sub (L' := [none, none, none, none, none, none, none, none, none, none, none, none, none, none, none]) True.intro (t_b_L_act_886 O Z p56.2 (0 : Int32) hf)
                  · refine E_iconst (pc := 881) O (1 : Int32) dL_act_881 (by decide) ?_
                    refine E_goto (pc := 882) O 886 dL_act_882 (by decide) ?_
                    refine E_widen (cs := 1) (ss := 7) (Nat.le_of_ble_eq_true rfl) (Nat.le_of_ble_eq_true rfl) ?_
                    exact E_sub (L' := [none, none, none, none, none, none, none, none, none, none, none, none, none, none, none]) True.intro (t_b_L_act_886 O Z p56.2 (1 : Int32) hf)
              · refine E_iload_n (pc := 774) O 3 dL_act_774 rfl rfl ?_
                refine E_bipush (pc := 775) O (7 : Int32) dL_act_775 (by decide) ?_
                refine E_ishr (pc := 777) O dL_act_777 ?_
                refine E_bipush (pc := 778) O (7 : Int32) dL_act_778 (by decide) ?_
                refine E_callS_iP (pc := 780) (S := []) O [.int (x3 >>> ((7 : Int32) &&& 31)), .int (7 : Int32)] CS_RailSequenceLaw_61 (fun r e => t_L_at e) dL_act_780 hf rfl ⟨(Nat.le_of_ble_eq_true rfl), (Nat.le_of_ble_eq_true rfl)⟩ ⟨(Nat.le_of_ble_eq_true rfl), (Nat.le_of_ble_eq_true rfl)⟩ (Nat.le_of_ble_eq_true rfl) (fun v57 hf => ?_)
                refine E_istore (pc := 783) O [some (.ref x0), some (.int x1), some (.int x2), some (.int x3), some (.ref x4), some (.ref x5), some (.ref x6), some (.ref x7), some (.ref x8), some (.int v48), some (.int v49), some (.int v57), none, none, none] dL_act_783 (by decide) rfl rfl ?_
                refine E_aload (pc := 785) O dL_act_785 rfl ?_
                refine E_bipush (pc := 787) O (7 : Int32) dL_act_787 (by decide) ?_
                refine E_iload (pc := 789) O dL_act_789 rfl ?_
                refine E_imul (pc := 791) O dL_act_791 ?_
                refine E_iload (pc := 792) O dL_act_792 rfl ?_
                refine E_iadd (pc := 794) O dL_act_794 ?_
                refine E_iaload (pc := 795) O dL_act_795 hf (fun v58 hf => ?_)
                refine E_istore (pc := 796) O [some (.ref x0), some (.int x1), some (.int x2), some (.int x3), some (.ref x4), some (.ref x5), some (.ref x6), some (.ref x7), some (.ref x8), some (.int v48), some (.int v49), some (.int v57), some (.int v58), none, none] dL_act_796 (by decide) rfl rfl ?_
                refine E_aload (pc := 798) O dL_act_798 rfl ?_
                refine E_bipush (pc := 800) O (7 : Int32) dL_act_800 (by decide) ?_
                refine E_iload (pc := 802) O dL_act_802 rfl ?_
                refine E_imul (pc := 804) O dL_act_804 ?_
                refine E_iload (pc := 805) O dL_act_805 rfl ?_
                refine E_iadd (pc := 807) O dL_act_807 ?_
                refine E_iload (pc := 808) O dL_act_808 rfl ?_
                refine E_iload_n (pc := 810) O 3 dL_act_810 rfl rfl ?_
                refine E_callS_iP (pc := 811) (S := [.int (((7 : Int32) * v48) + v57), .ref x4]) O [.int v57, .int x3] CS_RailSequenceLaw_75 (fun r e => t_L_value e) dL_act_811 hf rfl ⟨(Nat.le_of_ble_eq_true rfl), (Nat.le_of_ble_eq_true rfl)⟩ ⟨(Nat.le_of_ble_eq_true rfl), (Nat.le_of_ble_eq_true rfl)⟩ (Nat.le_of_ble_eq_true rfl) (fun v59 hf => ?_)
                refine E_iastore (pc := 814) O dL_act_814 hf (fun h60 hf => ?_)
                refine E_aload_n (pc := 815) O 0 dL_act_815 rfl rfl ?_
                refine E_iload (pc := 816) O dL_act_816 rfl ?_
                refine E_iload (pc := 818) O dL_act_818 rfl ?_
                refine E_aload (pc := 820) O dL_act_820 rfl ?_
                refine E_bipush (pc := 822) O (7 : Int32) dL_act_822 (by decide) ?_
                refine E_iload (pc := 824) O dL_act_824 rfl ?_
                refine E_imul (pc := 826) O dL_act_826 ?_
                refine E_iload (pc := 827) O dL_act_827 rfl ?_
                refine E_iadd (pc := 829) O dL_act_829 ?_
                refine E_iaload (pc := 830) O dL_act_830 hf (fun v61 hf => ?_)
                refine E_callV_i (pc := 831) (S := []) O [.int v48, .int v57, .int v61] CV_RailSequenceLaw_99 rfl (fun r e => t_X3_set e) dL_act_831 hf rfl ⟨(Nat.le_of_ble_eq_true rfl), (Nat.le_of_ble_eq_true rfl)⟩ ⟨(Nat.le_of_ble_eq_true rfl), (Nat.le_of_ble_eq_true rfl)⟩ (Nat.le_of_ble_eq_true rfl) (fun p62 hf => ?_)
                refine E_iload (pc := 834) O dL_act_834 rfl ?_
                refine E_icmp_ne (pc := 836) O 843 dL_act_836 (by decide) hf (fun hf => ?_) (fun hf => ?_)
                · refine E_iconst (pc := 843) O (0 : Int32) dL_act_843 (by decide) ?_
                  refine E_widen (cs := 1) (ss := 7) (Nat.le_of_ble_eq_true rfl) (Nat.le_of_ble_eq_true rfl) ?_
                  exact E_sub (L' := [none, none, none, none, none, none, none, none, none, none, none, none, none, none, none]) True.intro (t_b_L_act_844 O Z p62.2 (0 : Int32) hf)
                · refine E_iconst (pc := 839) O (1 : Int32) dL_act_839 (by decide) ?_
                  refine E_goto (pc := 840) O 844 dL_act_840 (by decide) ?_
                  refine E_widen (cs := 1) (ss := 7) (Nat.le_of_ble_eq_true rfl) (Nat.le_of_ble_eq_true rfl) ?_
                  exact E_sub (L' := [none, none, none, none, none, none, none, none, none, none, none, none, none, none, none]) True.intro (t_b_L_act_844 O Z p62.2 (1 : Int32) hf)
            · refine E_aload (pc := 723) O dL_act_723 rfl ?_
              refine E_iload (pc := 725) O dL_act_725 rfl ?_
              refine E_iconst (pc := 727) O (4 : Int32) dL_act_727 (by decide) ?_
              refine E_iadd (pc := 728) O dL_act_728 ?_
              refine E_iaload (pc := 729) O dL_act_729 hf (fun v63 hf => ?_)
              refine E_istore (pc := 730) O [some (.ref x0), some (.int x1), some (.int x2), some (.int x3), some (.ref x4), some (.ref x5), some (.ref x6), some (.ref x7), some (.ref x8), some (.int v48), some (.int v49), some (.int v63), none, none, none] dL_act_730 (by decide) rfl rfl ?_
              refine E_aload (pc := 732) O dL_act_732 rfl ?_
              refine E_iload (pc := 734) O dL_act_734 rfl ?_
              refine E_iconst (pc := 736) O (4 : Int32) dL_act_736 (by decide) ?_
              refine E_iadd (pc := 737) O dL_act_737 ?_
              refine E_iload_n (pc := 738) O 3 dL_act_738 rfl rfl ?_
              refine E_iconst (pc := 739) O (3 : Int32) dL_act_739 (by decide) ?_
              refine E_callS_iP (pc := 740) (S := [.int (v49 + (4 : Int32)), .ref x5]) O [.int x3, .int (3 : Int32)] CS_RailSequenceLaw_61 (fun r e => t_L_at e) dL_act_740 hf rfl ⟨(Nat.le_of_ble_eq_true rfl), (Nat.le_of_ble_eq_true rfl)⟩ ⟨(Nat.le_of_ble_eq_true rfl), (Nat.le_of_ble_eq_true rfl)⟩ (Nat.le_of_ble_eq_true rfl) (fun v64 hf => ?_)
              refine E_iastore (pc := 743) O dL_act_743 hf (fun h65 hf => ?_)
              refine E_aload_n (pc := 744) O 0 dL_act_744 rfl rfl ?_
              refine E_iload (pc := 745) O dL_act_745 rfl ?_
              refine E_aload (pc := 747) O dL_act_747 rfl ?_
              refine E_iload (pc := 749) O dL_act_749 rfl ?_
              refine E_iconst (pc := 751) O (4 : Int32) dL_act_751 (by decide) ?_
              refine E_iadd (pc := 752) O dL_act_752 ?_
              refine E_iaload (pc := 753) O dL_act_753 hf (fun v66 hf => ?_)
              refine E_callV_i (pc := 754) (S := []) O [.int v48, .int v66] CV_RailSequenceLaw_96 rfl (fun r e => t_X3_stick e) dL_act_754 hf rfl ⟨(Nat.le_of_ble_eq_true rfl), (Nat.le_of_ble_eq_true rfl)⟩ ⟨(Nat.le_of_ble_eq_true rfl), (Nat.le_of_ble_eq_true rfl)⟩ (Nat.le_of_ble_eq_true rfl) (fun p67 hf => ?_)
              refine E_iload (pc := 757) O dL_act_757 rfl ?_
              refine E_icmp_ne (pc := 759) O 766 dL_act_759 (by decide) hf (fun hf => ?_) (fun hf => ?_)
              · refine E_iconst (pc := 766) O (0 : Int32) dL_act_766 (by decide) ?_
                refine E_widen (cs := 1) (ss := 7) (Nat.le_of_ble_eq_true rfl) (Nat.le_of_ble_eq_true rfl) ?_
                exact E_sub (L' := [none, none, none, none, none, none, none, none, none, none, none, none, none, none, none]) True.intro (t_b_L_act_767 O Z p67.2 (0 : Int32) hf)
              · refine E_iconst (pc := 762) O (1 : Int32) dL_act_762 (by decide) ?_
                refine E_goto (pc := 763) O 767 dL_act_763 (by decide) ?_
                refine E_widen (cs := 1) (ss := 7) (Nat.le_of_ble_eq_true rfl) (Nat.le_of_ble_eq_true rfl) ?_
                exact E_sub (L' := [none, none, none, none, none, none, none, none, none, none, none, none, none, none, none]) True.intro (t_b_L_act_767 O Z p67.2 (1 : Int32) hf)
          · refine E_aload (pc := 671) O dL_act_671 rfl ?_
            refine E_iload (pc := 673) O dL_act_673 rfl ?_
            refine E_iconst (pc := 675) O (5 : Int32) dL_act_675 (by decide) ?_
            refine E_iadd (pc := 676) O dL_act_676 ?_
            refine E_iaload (pc := 677) O dL_act_677 hf (fun v68 hf => ?_)
            refine E_istore (pc := 678) O [some (.ref x0), some (.int x1), some (.int x2), some (.int x3), some (.ref x4), some (.ref x5), some (.ref x6), some (.ref x7), some (.ref x8), some (.int v48), some (.int v49), some (.int v68), none, none, none] dL_act_678 (by decide) rfl rfl ?_
            refine E_aload (pc := 680) O dL_act_680 rfl ?_
            refine E_iload (pc := 682) O dL_act_682 rfl ?_
            refine E_iconst (pc := 684) O (5 : Int32) dL_act_684 (by decide) ?_
            refine E_iadd (pc := 685) O dL_act_685 ?_
            refine E_iload_n (pc := 686) O 3 dL_act_686 rfl rfl ?_
            refine E_bipush (pc := 687) O (40 : Int32) dL_act_687 (by decide) ?_
            refine E_callS_iP (pc := 689) (S := [.int (v49 + (5 : Int32)), .ref x5]) O [.int x3, .int (40 : Int32)] CS_RailSequenceLaw_61 (fun r e => t_L_at e) dL_act_689 hf rfl ⟨(Nat.le_of_ble_eq_true rfl), (Nat.le_of_ble_eq_true rfl)⟩ ⟨(Nat.le_of_ble_eq_true rfl), (Nat.le_of_ble_eq_true rfl)⟩ (Nat.le_of_ble_eq_true rfl) (fun v69 hf => ?_)
            refine E_iastore (pc := 692) O dL_act_692 hf (fun h70 hf => ?_)
            refine E_aload_n (pc := 693) O 0 dL_act_693 rfl rfl ?_
            refine E_iload (pc := 694) O dL_act_694 rfl ?_
            refine E_aload (pc := 696) O dL_act_696 rfl ?_
            refine E_iload (pc := 698) O dL_act_698 rfl ?_
            refine E_iconst (pc := 700) O (5 : Int32) dL_act_700 (by decide) ?_
            refine E_iadd (pc := 701) O dL_act_701 ?_
            refine E_iaload (pc := 702) O dL_act_702 hf (fun v71 hf => ?_)
            refine E_callV_i (pc := 703) (S := []) O [.int v48, .int v71] CV_RailSequenceLaw_93 rfl (fun r e => t_X3_shortCircuit e) dL_act_703 hf rfl ⟨(Nat.le_of_ble_eq_true rfl), (Nat.le_of_ble_eq_true rfl)⟩ ⟨(Nat.le_of_ble_eq_true rfl), (Nat.le_of_ble_eq_true rfl)⟩ (Nat.le_of_ble_eq_true rfl) (fun p72 hf => ?_)
            refine E_iload (pc := 706) O dL_act_706 rfl ?_
            refine E_icmp_ne (pc := 708) O 715 dL_act_708 (by decide) hf (fun hf => ?_) (fun hf => ?_)
            · refine E_iconst (pc := 715) O (0 : Int32) dL_act_715 (by decide) ?_
              refine E_widen (cs := 1) (ss := 7) (Nat.le_of_ble_eq_true rfl) (Nat.le_of_ble_eq_true rfl) ?_
              exact E_sub (L' := [none, none, none, none, none, none, none, none, none, none, none, none, none, none, none]) True.intro (t_b_L_act_716 O Z p72.2 (0 : Int32) hf)
            · refine E_iconst (pc := 711) O (1 : Int32) dL_act_711 (by decide) ?_
              refine E_goto (pc := 712) O 716 dL_act_712 (by decide) ?_
              refine E_widen (cs := 1) (ss := 7) (Nat.le_of_ble_eq_true rfl) (Nat.le_of_ble_eq_true rfl) ?_
              exact E_sub (L' := [none, none, none, none, none, none, none, none, none, none, none, none, none, none, none]) True.intro (t_b_L_act_716 O Z p72.2 (1 : Int32) hf)
        · refine E_aload (pc := 501) O dL_act_501 rfl ?_
          refine E_iload (pc := 503) O dL_act_503 rfl ?_
          refine E_iconst (pc := 505) O (1 : Int32) dL_act_505 (by decide) ?_
          refine E_iadd (pc := 506) O dL_act_506 ?_
          refine E_iaload (pc := 507) O dL_act_507 hf (fun v73 hf => ?_)
          refine E_if_ne (pc := 508) O 513 dL_act_508 (by decide) hf (fun hf => ?_) (fun hf => ?_)
          · refine E_iconst (pc := 513) O (1 : Int32) dL_act_513 (by decide) ?_
            refine E_iload (pc := 514) O dL_act_514 rfl ?_
            refine E_ishl (pc := 516) O dL_act_516 ?_
            refine E_iconst (pc := 517) O (1 : Int32) dL_act_517 (by decide) ?_
            refine E_aload (pc := 518) O dL_act_518 rfl ?_
            refine E_aload (pc := 520) O dL_act_520 rfl ?_
            refine E_callS_iP (pc := 522) (S := []) O [.int ((1 : Int32) <<< (v48 &&& 31)), .int (1 : Int32), .ref x5, .ref x8] CS_RailSequenceLaw_28 (fun r e => t_L_closed e) dL_act_522 hf rfl ⟨(Nat.le_of_ble_eq_true rfl), (Nat.le_of_ble_eq_true rfl)⟩ ⟨(Nat.le_of_ble_eq_true rfl), (Nat.le_of_ble_eq_true rfl)⟩ (Nat.le_of_ble_eq_true rfl) (fun v74 hf => ?_)
            refine E_istore (pc := 525) O [some (.ref x0), some (.int x1), some (.int x2), some (.int x3), some (.ref x4), some (.ref x5), some (.ref x6), some (.ref x7), some (.ref x8), some (.int v48), some (.int v49), some (.int v74), none, none, none] dL_act_525 (by decide) rfl rfl ?_
            refine E_aload (pc := 527) O dL_act_527 rfl ?_
            refine E_iconst (pc := 529) O (4 : Int32) dL_act_529 (by decide) ?_
            refine E_iconst (pc := 530) O (0 : Int32) dL_act_530 (by decide) ?_
            refine E_iastore (pc := 531) O dL_act_531 hf (fun h75 hf => ?_)
            refine E_iconst (pc := 532) O (0 : Int32) dL_act_532 (by decide) ?_
            refine E_istore (pc := 533) O [some (.ref x0), some (.int x1), some (.int x2), some (.int x3), some (.ref x4), some (.ref x5), some (.ref x6), some (.ref x7), some (.ref x8), some (.int v48), some (.int v49), some (.int v74), some (.int (0 : Int32)), none, none] dL_act_533 (by decide) rfl rfl ?_
            refine E_widen (cs := 1) (ss := 7) (Nat.le_of_ble_eq_true rfl) (Nat.le_of_ble_eq_true rfl) ?_
            exact E_sub (L' := [some (.ref x0), none, none, none, none, some (.ref x5), some (.ref x6), some (.ref x7), some (.ref x8), some (.int v48), none, some (.int v74), some (.int (0 : Int32)), none, none]) (And.intro rfl (And.intro rfl (And.intro rfl (And.intro rfl (And.intro rfl (And.intro rfl (And.intro rfl (And.intro rfl True.intro)))))))) (t_f_L_act_535 O Z FU h75 x0 x5 x6 x7 x8 v48 v74 (0 : Int32) hf)
          · refine E_iconst (pc := 511) O (1 : Int32) dL_act_511 (by decide) ?_
            exact E_zret (pc := 512) O Z hf ⟨(Nat.le_of_ble_eq_true rfl), (Nat.le_of_ble_eq_true rfl)⟩ dL_act_512
      · refine E_iload_n (pc := 314) O 1 dL_act_314 rfl rfl ?_
        refine E_bipush (pc := 315) O (9 : Int32) dL_act_315 (by decide) ?_
        refine E_icmp_ge (pc := 317) O 344 dL_act_317 (by decide) hf (fun hf => ?_) (fun hf => ?_)
        · refine E_iload_n (pc := 344) O 2 dL_act_344 rfl rfl ?_
          refine E_iconst (pc := 345) O (1 : Int32) dL_act_345 (by decide) ?_
          refine E_aload (pc := 346) O dL_act_346 rfl ?_
          refine E_iconst (pc := 348) O (0 : Int32) dL_act_348 (by decide) ?_
          refine E_iaload (pc := 349) O dL_act_349 hf (fun v76 hf => ?_)
          refine E_ishl (pc := 350) O dL_act_350 ?_
          refine E_callS_iP (pc := 351) (S := []) O [.int x2, .int ((1 : Int32) <<< (v76 &&& 31))] CS_RailSequenceLaw_61 (fun r e => t_L_at e) dL_act_351 hf rfl ⟨(Nat.le_of_ble_eq_true rfl), (Nat.le_of_ble_eq_true rfl)⟩ ⟨(Nat.le_of_ble_eq_true rfl), (Nat.le_of_ble_eq_true rfl)⟩ (Nat.le_of_ble_eq_true rfl) (fun v77 hf => ?_)
          refine E_iload_n (pc := 354) O 3 dL_act_354 rfl rfl ?_
          refine E_iconst (pc := 355) O (1 : Int32) dL_act_355 (by decide) ?_
          refine E_aload (pc := 356) O dL_act_356 rfl ?_
          refine E_iconst (pc := 358) O (0 : Int32) dL_act_358 (by decide) ?_
          refine E_iaload (pc := 359) O dL_act_359 hf (fun v78 hf => ?_)
          refine E_ishl (pc := 360) O dL_act_360 ?_
          refine E_callS_iP (pc := 361) (S := [.int v77]) O [.int x3, .int ((1 : Int32) <<< (v78 &&& 31))] CS_RailSequenceLaw_61 (fun r e => t_L_at e) dL_act_361 hf rfl ⟨(Nat.le_of_ble_eq_true rfl), (Nat.le_of_ble_eq_true rfl)⟩ ⟨(Nat.le_of_ble_eq_true rfl), (Nat.le_of_ble_eq_true rfl)⟩ (Nat.le_of_ble_eq_true rfl) (fun v79 hf => ?_)
          refine E_iand (pc := 364) O dL_act_364 ?_
          refine E_widen (cs := 1) (ss := 7) (Nat.le_of_ble_eq_true rfl) (Nat.le_of_ble_eq_true rfl) ?_
          exact E_sub (L' := [some (.ref x0), some (.int x1), none, none, none, some (.ref x5), none, none, some (.ref x8), none, none, none, none, none, none]) (And.intro rfl (And.intro rfl (And.intro rfl (And.intro rfl True.intro)))) (t_b_L_act_365 O Z h x0 x1 x5 x8 (v77 &&& v79) hf)
        · refine E_iload_n (pc := 320) O 2 dL_act_320 rfl rfl ?_
          refine E_iconst (pc := 321) O (1 : Int32) dL_act_321 (by decide) ?_
          refine E_aload (pc := 322) O dL_act_322 rfl ?_
          refine E_iconst (pc := 324) O (0 : Int32) dL_act_324 (by decide) ?_
          refine E_iaload (pc := 325) O dL_act_325 hf (fun v80 hf => ?_)
          refine E_ishl (pc := 326) O dL_act_326 ?_
          refine E_callS_iP (pc := 327) (S := []) O [.int x2, .int ((1 : Int32) <<< (v80 &&& 31))] CS_RailSequenceLaw_61 (fun r e => t_L_at e) dL_act_327 hf rfl ⟨(Nat.le_of_ble_eq_true rfl), (Nat.le_of_ble_eq_true rfl)⟩ ⟨(Nat.le_of_ble_eq_true rfl), (Nat.le_of_ble_eq_true rfl)⟩ (Nat.le_of_ble_eq_true rfl) (fun v81 hf => ?_)
          refine E_iload_n (pc := 330) O 3 dL_act_330 rfl rfl ?_
          refine E_iconst (pc := 331) O (1 : Int32) dL_act_331 (by decide) ?_
          refine E_aload (pc := 332) O dL_act_332 rfl ?_
          refine E_iconst (pc := 334) O (0 : Int32) dL_act_334 (by decide) ?_
          refine E_iaload (pc := 335) O dL_act_335 hf (fun v82 hf => ?_)
          refine E_ishl (pc := 336) O dL_act_336 ?_
          refine E_callS_iP (pc := 337) (S := [.int v81]) O [.int x3, .int ((1 : Int32) <<< (v82 &&& 31))] CS_RailSequenceLaw_61 (fun r e => t_L_at e) dL_act_337 hf rfl ⟨(Nat.le_of_ble_eq_true rfl), (Nat.le_of_ble_eq_true rfl)⟩ ⟨(Nat.le_of_ble_eq_true rfl), (Nat.le_of_ble_eq_true rfl)⟩ (Nat.le_of_ble_eq_true rfl) (fun v83 hf => ?_)
          refine E_ior (pc := 340) O dL_act_340 ?_
          refine E_goto (pc := 341) O 365 dL_act_341 (by decide) ?_
          refine E_widen (cs := 1) (ss := 7) (Nat.le_of_ble_eq_true rfl) (Nat.le_of_ble_eq_true rfl) ?_
          exact E_sub (L' := [some (.ref x0), some (.int x1), none, none, none, some (.ref x5), none, none, some (.ref x8), none, none, none, none, none, none]) (And.intro rfl (And.intro rfl (And.intro rfl (And.intro rfl True.intro)))) (t_b_L_act_365 O Z h x0 x1 x5 x8 (v81 ||| v83) hf)
    · refine E_iconst (pc := 232) O (1 : Int32) dL_act_232 (by decide) ?_
      refine E_iload_n (pc := 233) O 3 dL_act_233 rfl rfl ?_
      refine E_iload_n (pc := 234) O 2 dL_act_234 rfl rfl ?_
      refine E_iconst (pc := 235) O (3 : Int32) dL_act_235 (by decide) ?_
      refine E_callS_iP (pc := 236) (S := [.int x3, .int (1 : Int32)]) O [.int x2, .int (3 : Int32)] CS_RailSequenceLaw_61 (fun r e => t_L_at e) dL_act_236 hf rfl ⟨(Nat.le_of_ble_eq_true rfl), (Nat.le_of_ble_eq_true rfl)⟩ ⟨(Nat.le_of_ble_eq_true rfl), (Nat.le_of_ble_eq_true rfl)⟩ (Nat.le_of_ble_eq_true rfl) (fun v84 hf => ?_)
      refine E_if_ne (pc := 239) O 247 dL_act_239 (by decide) hf (fun hf => ?_) (fun hf => ?_)
      · refine E_bipush (pc := 247) O (12 : Int32) dL_act_247 (by decide) ?_
        refine E_widen (cs := 1) (ss := 7) (Nat.le_of_ble_eq_true rfl) (Nat.le_of_ble_eq_true rfl) ?_
        exact E_sub (L' := [some (.ref x0), none, none, none, some (.ref x4), some (.ref x5), some (.ref x6), some (.ref x7), some (.ref x8), none, none, none, none, none, none]) (And.intro rfl (And.intro rfl (And.intro rfl (And.intro rfl (And.intro rfl (And.intro rfl True.intro)))))) (t_b_L_act_249 O Z h x0 x4 x5 x6 x7 x8 (1 : Int32) x3 (12 : Int32) hf)
      · refine E_bipush (pc := 242) O (60 : Int32) dL_act_242 (by decide) ?_
        refine E_goto (pc := 244) O 249 dL_act_244 (by decide) ?_
        refine E_widen (cs := 1) (ss := 7) (Nat.le_of_ble_eq_true rfl) (Nat.le_of_ble_eq_true rfl) ?_
        exact E_sub (L' := [some (.ref x0), none, none, none, some (.ref x4), some (.ref x5), some (.ref x6), some (.ref x7), some (.ref x8), none, none, none, none, none, none]) (And.intro rfl (And.intro rfl (And.intro rfl (And.intro rfl (And.intro rfl (And.intro rfl True.intro)))))) (t_b_L_act_249 O Z h x0 x4 x5 x6 x7 x8 (1 : Int32) x3 (60 : Int32) hf)
  · refine E_aload (pc := 5) O dL_act_5 rfl ?_
    refine E_iconst (pc := 7) O (0 : Int32) dL_act_7 (by decide) ?_
    refine E_iaload (pc := 8) O dL_act_8 hf (fun v85 hf => ?_)
    refine E_bipush (pc := 9) O (6 : Int32) dL_act_9 (by decide) ?_
    refine E_icmp_ne (pc := 11) O 16 dL_act_11 (by decide) hf (fun hf => ?_) (fun hf => ?_)
    · refine E_aload (pc := 16) O dL_act_16 rfl ?_
      refine E_iconst (pc := 18) O (0 : Int32) dL_act_18 (by decide) ?_
      refine E_iaload (pc := 19) O dL_act_19 hf (fun v86 hf => ?_)
      refine E_istore (pc := 20) O [some (.ref x0), some (.int x1), some (.int x2), some (.int x3), some (.ref x4), some (.ref x5), some (.ref x6), some (.ref x7), some (.ref x8), some (.int v86), none, none, none, none, none] dL_act_20 (by decide) rfl rfl ?_
      refine E_bipush (pc := 22) O (7 : Int32) dL_act_22 (by decide) ?_
      refine E_newaI (pc := 24) O (aw1 41 (by decide +kernel) rfl) dL_act_24 (by decide) (by decide) (Nat.le_of_ble_eq_true rfl) hf ⟨(Nat.le_of_ble_eq_true rfl), (Nat.le_of_ble_eq_true rfl)⟩ (fun h87 hf => ?_)
      show EE K (true, 1, 7) _ _ _ _
      obtain ⟨v88, ev88, hf⟩ := ob hf
      have ev88 := os ev88
      rw [ev88]
      refine E_astore (pc := 26) O [some (.ref x0), some (.int x1), some (.int x2), some (.int x3), some (.ref x4), some (.ref x5), some (.ref x6), some (.ref x7), some (.ref x8), some (.int v86), some (.ref v88), none, none, none, none] dL_act_26 (by decide) rfl rfl ?_
      refine E_aload (pc := 28) O dL_act_28 rfl ?_
      refine E_iconst (pc := 30) O (0 : Int32) dL_act_30 (by decide) ?_
      refine E_iconst (pc := 31) O (0 : Int32) dL_act_31 (by decide) ?_
      refine E_iload_n (pc := 32) O 2 dL_act_32 rfl rfl ?_
      refine E_callS_iP (pc := 33) (S := [.int (0 : Int32), .ref v88]) O [.int (0 : Int32), .int x2] CS_RailSequenceLaw_75 (fun r e => t_L_value e) dL_act_33 hf rfl ⟨(Nat.le_of_ble_eq_true rfl), (Nat.le_of_ble_eq_true rfl)⟩ ⟨(Nat.le_of_ble_eq_true rfl), (Nat.le_of_ble_eq_true rfl)⟩ (Nat.le_of_ble_eq_true rfl) (fun v89 hf => ?_)
      refine E_iastore (pc := 36) O dL_act_36 hf (fun h90 hf => ?_)
      refine E_aload (pc := 37) O dL_act_37 rfl ?_
      refine E_iconst (pc := 39) O (1 : Int32) dL_act_39 (by decide) ?_
      refine E_bipush (pc := 40) O (20 : Int32) dL_act_40 (by decide) ?_
      refine E_iconst (pc := 42) O (1 : Int32) dL_act_42 (by decide) ?_
      refine E_iload_n (pc := 43) O 3 dL_act_43 rfl rfl ?_
      refine E_callS_iP (pc := 44) (S := [.int (20 : Int32), .int (1 : Int32), .ref v88]) O [.int (1 : Int32), .int x3] CS_RailSequenceLaw_75 (fun r e => t_L_value e) dL_act_44 hf rfl ⟨(Nat.le_of_ble_eq_true rfl), (Nat.le_of_ble_eq_true rfl)⟩ ⟨(Nat.le_of_ble_eq_true rfl), (Nat.le_of_ble_eq_true rfl)⟩ (Nat.le_of_ble_eq_true rfl) (fun v91 hf => ?_)
      refine E_sipush (pc := 47) O (900 : Int32) dL_act_47 (by decide) ?_
      refine E_irem (pc := 50) O dL_act_50 hf (fun v92 hf => ?_)
      refine E_iadd (pc := 51) O dL_act_51 ?_
      refine E_iastore (pc := 52) O dL_act_52 hf (fun h93 hf => ?_)
      refine E_aload (pc := 53) O dL_act_53 rfl ?_
      refine E_iconst (pc := 55) O (2 : Int32) dL_act_55 (by decide) ?_
      refine E_bipush (pc := 56) O (20 : Int32) dL_act_56 (by decide) ?_
      refine E_iconst (pc := 58) O (2 : Int32) dL_act_58 (by decide) ?_
      refine E_iload_n (pc := 59) O 2 dL_act_59 rfl rfl ?_
      refine E_iconst (pc := 60) O (3 : Int32) dL_act_60 (by decide) ?_
      refine E_ishr (pc := 61) O dL_act_61 ?_
      refine E_callS_iP (pc := 62) (S := [.int (20 : Int32), .int (2 : Int32), .ref v88]) O [.int (2 : Int32), .int (x2 >>> ((3 : Int32) &&& 31))] CS_RailSequenceLaw_75 (fun r e => t_L_value e) dL_act_62 hf rfl ⟨(Nat.le_of_ble_eq_true rfl), (Nat.le_of_ble_eq_true rfl)⟩ ⟨(Nat.le_of_ble_eq_true rfl), (Nat.le_of_ble_eq_true rfl)⟩ (Nat.le_of_ble_eq_true rfl) (fun v94 hf => ?_)
      refine E_sipush (pc := 65) O (900 : Int32) dL_act_65 (by decide) ?_
      refine E_irem (pc := 68) O dL_act_68 hf (fun v95 hf => ?_)
      refine E_iadd (pc := 69) O dL_act_69 ?_
      refine E_iastore (pc := 70) O dL_act_70 hf (fun h96 hf => ?_)
      refine E_aload (pc := 71) O dL_act_71 rfl ?_
      refine E_iconst (pc := 73) O (3 : Int32) dL_act_73 (by decide) ?_
      refine E_bipush (pc := 74) O (90 : Int32) dL_act_74 (by decide) ?_
      refine E_iastore (pc := 76) O dL_act_76 hf (fun h97 hf => ?_)
      refine E_aload (pc := 77) O dL_act_77 rfl ?_
      refine E_iconst (pc := 79) O (4 : Int32) dL_act_79 (by decide) ?_
      refine E_iconst (pc := 80) O (2 : Int32) dL_act_80 (by decide) ?_
      refine E_iastore (pc := 81) O dL_act_81 hf (fun h98 hf => ?_)
      refine E_aload (pc := 82) O dL_act_82 rfl ?_
      refine E_iconst (pc := 84) O (5 : Int32) dL_act_84 (by decide) ?_
      refine E_bipush (pc := 85) O (40 : Int32) dL_act_85 (by decide) ?_
      refine E_iastore (pc := 87) O dL_act_87 hf (fun h99 hf => ?_)
      refine E_aload (pc := 88) O dL_act_88 rfl ?_
      refine E_bipush (pc := 90) O (6 : Int32) dL_act_90 (by decide) ?_
      refine E_iconst (pc := 92) O (2 : Int32) dL_act_92 (by decide) ?_
      refine E_iastore (pc := 93) O dL_act_93 hf (fun h100 hf => ?_)
      refine E_iconst (pc := 94) O (0 : Int32) dL_act_94 (by decide) ?_
      refine E_istore (pc := 95) O [some (.ref x0), some (.int x1), some (.int x2), some (.int x3), some (.ref x4), some (.ref x5), some (.ref x6), some (.ref x7), some (.ref x8), some (.int v86), some (.ref v88), some (.int (0 : Int32)), none, none, none] dL_act_95 (by decide) rfl rfl ?_
      exact E_sub (L' := [some (.ref x0), none, none, some (.int x3), some (.ref x4), some (.ref x5), none, none, some (.ref x8), some (.int v86), some (.ref v88), some (.int (0 : Int32)), none, none, none]) (And.intro rfl (And.intro rfl (And.intro rfl (And.intro rfl (And.intro rfl (And.intro rfl (And.intro rfl (And.intro rfl True.intro)))))))) (t_f_L_act_97 O Z FU h100 x0 x3 x4 x5 x8 v86 v88 (0 : Int32) hf)
    · refine E_iconst (pc := 14) O (1 : Int32) dL_act_14 (by decide) ?_
      exact E_zret (pc := 15) O Z hf ⟨(Nat.le_of_ble_eq_true rfl), (Nat.le_of_ble_eq_true rfl)⟩ dL_act_15
