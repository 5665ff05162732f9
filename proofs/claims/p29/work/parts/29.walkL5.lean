/-! walks: the machine does what the plain functions say: written by program -/
set_option maxHeartbeats 4000000 in
set_option maxRecDepth 100000 in
theorem t_b_L_law_66 {K : Cx} {out : Int32} {sc : Nat × (Nat → Int32)} (O : Ok K "RailSequenceLaw" code 10 room_1) (Z : ∀ (cs ss : Nat) (pc : Nat) (L : List (Option Value)) (h : MH), cs ≤ 600104 → ss ≤ 7301313 → decode code pc = .ok (.ireturn, 1) → EE K (true, cs, ss) pc L [.int 1] h) (hsc : gro K.1 0 = sc) (hout : out = 1) {cs ss : Nat} (hcs : cs + 5 ≤ 600104) (hss : ss + 155 ≤ 7301313) (h : MH) (hf : b_L_law_66 sc h = some out) : EE K (true, cs, ss) 66 [none, none, none, none, none, none, none, none, none, none] [] h := by
  unfold b_L_law_66 at hf
  refine E_iconst (pc := 66) O (0 : Int32) dL_law_66 (by decide) ?_
  exact absurd (os hf) (by rw [hout]; decide)
set_option maxHeartbeats 4000000 in
set_option maxRecDepth 100000 in
theorem t_b_L_law_171 {K : Cx} {out : Int32} {sc : Nat × (Nat → Int32)} (O : Ok K "RailSequenceLaw" code 10 room_1) (Z : ∀ (cs ss : Nat) (pc : Nat) (L : List (Option Value)) (h : MH), cs ≤ 600104 → ss ≤ 7301313 → decode code pc = .ok (.ireturn, 1) → EE K (true, cs, ss) pc L [.int 1] h) (hsc : gro K.1 0 = sc) (hout : out = 1) {cs ss : Nat} (hcs : cs + 5 ≤ 600104) (hss : ss + 155 ≤ 7301313) (h : MH) (hf : b_L_law_171 sc h = some out) : EE K (true, cs + 1, ss + 7) 171 [none, none, none, none, none, none, none, none, none, none] [] h := by
  unfold b_L_law_171 at hf
  refine E_iconst (pc := 171) O (0 : Int32) dL_law_171 (by decide) ?_
  exact absurd (os hf) (by rw [hout]; decide)
set_option maxHeartbeats 4000000 in
set_option maxRecDepth 100000 in
theorem t_b_L_law_203 {K : Cx} {out : Int32} {sc : Nat × (Nat → Int32)} (O : Ok K "RailSequenceLaw" code 10 room_1) (Z : ∀ (cs ss : Nat) (pc : Nat) (L : List (Option Value)) (h : MH), cs ≤ 600104 → ss ≤ 7301313 → decode code pc = .ok (.ireturn, 1) → EE K (true, cs, ss) pc L [.int 1] h) (hsc : gro K.1 0 = sc) (hout : out = 1) {cs ss : Nat} (hcs : cs + 5 ≤ 600104) (hss : ss + 155 ≤ 7301313) (rec71 : MH → Nat → Nat → Nat → Nat → Nat → Nat → Int32 → Option Int32) (hr71 : ∀ (h : MH) (x1 : Nat) (x2 : Nat) (x3 : Nat) (x4 : Nat) (x5 : Nat) (x6 : Nat) (x7 : Int32), rec71 h x1 x2 x3 x4 x5 x6 x7 = some out → EE K (true, cs + 5, ss + 155) 71 [some (.ref (RO + 0)), some (.ref x1), some (.ref x2), some (.ref x3), some (.ref x4), some (.ref x5), some (.ref x6), some (.int x7), none, none] [] h) (h : MH) (x1 : Nat) (x2 : Nat) (x3 : Nat) (x4 : Nat) (x5 : Nat) (x6 : Nat) (x7 : Int32) (hf : b_L_law_203 sc rec71 h x1 x2 x3 x4 x5 x6 x7 = some out) : EE K (true, cs + 5, ss + 155) 203 [some (.ref (RO + 0)), some (.ref x1), some (.ref x2), some (.ref x3), some (.ref x4), some (.ref x5), some (.ref x6), some (.int x7), none, none] [] h := by
  unfold b_L_law_203 at hf
  refine E_iinc (pc := 203) O (1 : Int32) [some (.ref (RO + 0)), some (.ref x1), some (.ref x2), some (.ref x3), some (.ref x4), some (.ref x5), some (.ref x6), some (.int (x7 + (1 : Int32))), none, none] dL_law_203 rfl (by decide) rfl (by decide) rfl ?_
  refine E_goto (pc := 206) O 71 dL_law_206 (by decide) ?_
  exact hr71 h x1 x2 x3 x4 x5 x6 (x7 + (1 : Int32)) hf
set_option maxHeartbeats 4000000 in
set_option maxRecDepth 100000 in
theorem t_b_L_law_138 {K : Cx} {out : Int32} {sc : Nat × (Nat → Int32)} (O : Ok K "RailSequenceLaw" code 10 room_1) (Z : ∀ (cs ss : Nat) (pc : Nat) (L : List (Option Value)) (h : MH), cs ≤ 600104 → ss ≤ 7301313 → decode code pc = .ok (.ireturn, 1) → EE K (true, cs, ss) pc L [.int 1] h) (hsc : gro K.1 0 = sc) (hout : out = 1) {cs ss : Nat} (hcs : cs + 5 ≤ 600104) (hss : ss + 155 ≤ 7301313) (rec71 : MH → Nat → Nat → Nat → Nat → Nat → Nat → Int32 → Option Int32) (hr71 : ∀ (h : MH) (x1 : Nat) (x2 : Nat) (x3 : Nat) (x4 : Nat) (x5 : Nat) (x6 : Nat) (x7 : Int32), rec71 h x1 x2 x3 x4 x5 x6 x7 = some out → EE K (true, cs + 5, ss + 155) 71 [some (.ref (RO + 0)), some (.ref x1), some (.ref x2), some (.ref x3), some (.ref x4), some (.ref x5), some (.ref x6), some (.int x7), none, none] [] h) (h : MH) (x1 : Nat) (x2 : Nat) (x3 : Nat) (x4 : Nat) (x5 : Nat) (x6 : Nat) (x7 : Int32) (x8 : Int32) (x9 : Int32) (s0 : Nat) (s1 : Int32) (hf : b_L_law_138 sc rec71 h x1 x2 x3 x4 x5 x6 x7 x8 x9 s0 s1 = some out) : EE K (true, cs, ss) 138 [some (.ref (RO + 0)), some (.ref x1), some (.ref x2), some (.ref x3), some (.ref x4), some (.ref x5), some (.ref x6), some (.int x7), some (.int x8), some (.int x9)] [.int s1, .ref s0] h := by
  unfold b_L_law_138 at hf
  refine E_iload (pc := 138) O dL_law_138 rfl ?_
  refine E_iload (pc := 140) O dL_law_140 rfl ?_
  refine E_aload_n (pc := 142) O 2 dL_law_142 rfl rfl ?_
  refine E_aload_n (pc := 143) O 3 dL_law_143 rfl rfl ?_
  refine E_aload (pc := 144) O dL_law_144 rfl ?_
  refine E_aload (pc := 146) O dL_law_146 rfl ?_
  refine E_aload (pc := 148) O dL_law_148 rfl ?_
  refine E_callS (pc := 150) (S := []) O [.ref s0, .int s1, .int x8, .int x9, .ref x2, .ref x3, .ref x4, .ref x5, .ref x6] (fun r => (some (.int r.1), r.2)) CS_RailSequenceLaw_121 (fun r e => t_L_act e) dL_law_150 hf rfl ⟨(Nat.le_of_ble_eq_true rfl), (Nat.le_of_ble_eq_true rfl)⟩ ⟨(show cs + 1 ≤ 600104 by omega), (show ss + 7 ≤ 7301313 by omega)⟩ (Nat.le_of_ble_eq_true rfl) (fun p1 hf => ?_)
  show EE K (true, cs + 1, ss + 7) _ _ (.int p1.1 :: []) p1.2
  refine E_if_eq (pc := 153) O 171 dL_law_153 (by decide) hf (fun hf => ?_) (fun hf => ?_)
  · exact E_sub (L' := [none, none, none, none, none, none, none, none, none, none]) True.intro (t_b_L_law_171 O Z hsc hout hcs hss p1.2 hf)
  · refine E_aload_n (pc := 156) O 1 dL_law_156 rfl rfl ?_
    refine E_aload_n (pc := 157) O 2 dL_law_157 rfl rfl ?_
    refine E_aload_n (pc := 158) O 3 dL_law_158 rfl rfl ?_
    refine E_aload (pc := 159) O dL_law_159 rfl ?_
    refine E_aload (pc := 161) O dL_law_161 rfl ?_
    refine E_aload (pc := 163) O dL_law_163 rfl ?_
    refine E_callS_i (pc := 165) (S := []) O [.ref x1, .ref x2, .ref x3, .ref x4, .ref x5, .ref x6] CS_RailSequenceLaw_112 (fun r e => t_L_told e) dL_law_165 hf rfl ⟨(Nat.le_of_ble_eq_true rfl), (Nat.le_of_ble_eq_true rfl)⟩ ⟨(show cs + 1 ≤ 600104 by omega), (show ss + 7 ≤ 7301313 by omega)⟩ (Nat.le_of_ble_eq_true rfl) (fun p2 hf => ?_)
    refine E_if_ne (pc := 168) O 173 dL_law_168 (by decide) hf (fun hf => ?_) (fun hf => ?_)
    · refine E_iload (pc := 173) O dL_law_173 rfl ?_
      refine E_bipush (pc := 175) O (6 : Int32) dL_law_175 (by decide) ?_
      refine E_irem (pc := 177) O dL_law_177 hf (fun v3 hf => ?_)
      refine E_iconst (pc := 178) O (5 : Int32) dL_law_178 (by decide) ?_
      refine E_icmp_ne (pc := 179) O 203 dL_law_179 (by decide) hf (fun hf => ?_) (fun hf => ?_)
      · refine E_widen (cs := cs + 5) (ss := ss + 155) (show cs + 1 ≤ cs + 5 by omega) (show ss + 7 ≤ ss + 155 by omega) ?_
        exact E_sub (L' := [some (.ref (RO + 0)), some (.ref x1), some (.ref x2), some (.ref x3), some (.ref x4), some (.ref x5), some (.ref x6), some (.int x7), none, none]) (And.intro rfl (And.intro rfl (And.intro rfl (And.intro rfl (And.intro rfl (And.intro rfl (And.intro rfl (And.intro rfl True.intro)))))))) (t_b_L_law_203 O Z hsc hout hcs hss _ hr71 p2.2 x1 x2 x3 x4 x5 x6 x7 hf)
      · refine E_aload_n (pc := 182) O 1 dL_law_182 rfl rfl ?_
        refine E_iload (pc := 183) O dL_law_183 rfl ?_
        refine E_iconst (pc := 185) O (2 : Int32) dL_law_185 (by decide) ?_
        refine E_ishr (pc := 186) O dL_law_186 ?_
        refine E_iload (pc := 187) O dL_law_187 rfl ?_
        refine E_iconst (pc := 189) O (2 : Int32) dL_law_189 (by decide) ?_
        refine E_ishr (pc := 190) O dL_law_190 ?_
        refine E_aload_n (pc := 191) O 2 dL_law_191 rfl rfl ?_
        refine E_aload_n (pc := 192) O 3 dL_law_192 rfl rfl ?_
        refine E_aload (pc := 193) O dL_law_193 rfl ?_
        refine E_callS (pc := 195) (S := []) O [.ref x1, .int (x9 >>> ((2 : Int32) &&& 31)), .int (x8 >>> ((2 : Int32) &&& 31)), .ref x2, .ref x3, .ref x6] (fun r => (some (.int r.1), r.2)) CS_RailSequenceLaw_125 (fun r e => t_L_ahead e) dL_law_195 hf rfl ⟨(Nat.le_of_ble_eq_true rfl), (Nat.le_of_ble_eq_true rfl)⟩ ⟨(show cs + 1 + 4 ≤ 600104 by omega), (show ss + 7 + 148 ≤ 7301313 by omega)⟩ (Nat.le_of_ble_eq_true rfl) (fun p4 hf => ?_)
        show EE K (true, cs + 5, ss + 155) _ _ (.int p4.1 :: []) p4.2
        refine E_if_ne (pc := 198) O 203 dL_law_198 (by decide) hf (fun hf => ?_) (fun hf => ?_)
        · exact E_sub (L' := [some (.ref (RO + 0)), some (.ref x1), some (.ref x2), some (.ref x3), some (.ref x4), some (.ref x5), some (.ref x6), some (.int x7), none, none]) (And.intro rfl (And.intro rfl (And.intro rfl (And.intro rfl (And.intro rfl (And.intro rfl (And.intro rfl (And.intro rfl True.intro)))))))) (t_b_L_law_203 O Z hsc hout hcs hss _ hr71 p4.2 x1 x2 x3 x4 x5 x6 x7 hf)
        · refine E_iconst (pc := 201) O (0 : Int32) dL_law_201 (by decide) ?_
          exact absurd (os hf) (by rw [hout]; decide)
    · exact E_sub (L' := [none, none, none, none, none, none, none, none, none, none]) True.intro (t_b_L_law_171 O Z hsc hout hcs hss p2.2 hf)
set_option maxHeartbeats 4000000 in
set_option maxRecDepth 100000 in
theorem t_b_L_law_223 {K : Cx} {out : Int32} {sc : Nat × (Nat → Int32)} (O : Ok K "RailSequenceLaw" code 10 room_1) (Z : ∀ (cs ss : Nat) (pc : Nat) (L : List (Option Value)) (h : MH), cs ≤ 600104 → ss ≤ 7301313 → decode code pc = .ok (.ireturn, 1) → EE K (true, cs, ss) pc L [.int 1] h) (hsc : gro K.1 0 = sc) (hout : out = 1) {cs ss : Nat} (hcs : cs + 5 ≤ 600104) (hss : ss + 155 ≤ 7301313) (h : MH) (s0 : Int32) (hf : b_L_law_223 sc h s0 = some out) : EE K (true, cs, ss) 223 [none, none, none, none, none, none, none, none, none, none] [.int s0] h := by
  unfold b_L_law_223 at hf
  obtain rfl : s0 = 1 := (os hf).trans hout
  exact Z _ _ _ _ _ (show cs ≤ 600104 by omega) (show ss ≤ 7301313 by omega) dL_law_223
set_option maxHeartbeats 4000000 in
set_option maxRecDepth 100000 in
theorem t_b_L_law_71 {K : Cx} {out : Int32} {sc : Nat × (Nat → Int32)} (O : Ok K "RailSequenceLaw" code 10 room_1) (Z : ∀ (cs ss : Nat) (pc : Nat) (L : List (Option Value)) (h : MH), cs ≤ 600104 → ss ≤ 7301313 → decode code pc = .ok (.ireturn, 1) → EE K (true, cs, ss) pc L [.int 1] h) (hsc : gro K.1 0 = sc) (hout : out = 1) {cs ss : Nat} (hcs : cs + 5 ≤ 600104) (hss : ss + 155 ≤ 7301313) (rec71 : MH → Nat → Nat → Nat → Nat → Nat → Nat → Int32 → Option Int32) (hr71 : ∀ (h : MH) (x1 : Nat) (x2 : Nat) (x3 : Nat) (x4 : Nat) (x5 : Nat) (x6 : Nat) (x7 : Int32), rec71 h x1 x2 x3 x4 x5 x6 x7 = some out → EE K (true, cs + 5, ss + 155) 71 [some (.ref (RO + 0)), some (.ref x1), some (.ref x2), some (.ref x3), some (.ref x4), some (.ref x5), some (.ref x6), some (.int x7), none, none] [] h) (h : MH) (x1 : Nat) (x2 : Nat) (x3 : Nat) (x4 : Nat) (x5 : Nat) (x6 : Nat) (x7 : Int32) (hf : b_L_law_71 sc rec71 h x1 x2 x3 x4 x5 x6 x7 = some out) : EE K (true, cs, ss) 71 [some (.ref (RO + 0)), some (.ref x1), some (.ref x2), some (.ref x3), some (.ref x4), some (.ref x5), some (.ref x6), some (.int x7), none, none] [] h := by
  unfold b_L_law_71 at hf
  refine E_iload (pc := 71) O dL_law_71 rfl ?_
  refine E_bipush (pc := 73) O (24 : Int32) dL_law_73 (by decide) ?_
  refine E_icmp_ge (pc := 75) O 209 dL_law_75 (by decide) hf (fun hf => ?_) (fun hf => ?_)
  · refine E_aload_n (pc := 209) O 1 dL_law_209 rfl rfl ?_
    refine E_bipush (pc := 210) O (8 : Int32) dL_law_210 (by decide) ?_
    refine E_callV_i (pc := 212) (S := []) O [.int (8 : Int32)] CV_RailSequenceLaw_46 rfl (fun r e => t_X3_count e) dL_law_212 hf rfl ⟨(Nat.le_of_ble_eq_true rfl), (Nat.le_of_ble_eq_true rfl)⟩ ⟨(show cs ≤ 600104 by omega), (show ss ≤ 7301313 by omega)⟩ (Nat.le_of_ble_eq_true rfl) (fun p5 hf => ?_)
    refine E_if_le (pc := 215) O 222 dL_law_215 (by decide) hf (fun hf => ?_) (fun hf => ?_)
    · refine E_iconst (pc := 222) O (0 : Int32) dL_law_222 (by decide) ?_
      exact E_sub (L' := [none, none, none, none, none, none, none, none, none, none]) True.intro (t_b_L_law_223 O Z hsc hout hcs hss p5.2 (0 : Int32) hf)
    · refine E_iconst (pc := 218) O (1 : Int32) dL_law_218 (by decide) ?_
      refine E_goto (pc := 219) O 223 dL_law_219 (by decide) ?_
      exact E_sub (L' := [none, none, none, none, none, none, none, none, none, none]) True.intro (t_b_L_law_223 O Z hsc hout hcs hss p5.2 (1 : Int32) hf)
  · refine E_aload_n (pc := 78) O 0 dL_law_78 rfl rfl ?_
    refine E_iconst (pc := 79) O (2 : Int32) dL_law_79 (by decide) ?_
    refine E_iload (pc := 80) O dL_law_80 rfl ?_
    refine E_imul (pc := 82) O dL_law_82 ?_
    refine E_callS_iP (pc := 83) (S := []) O [.ref (RO + 0), .int ((2 : Int32) * x7)] CS_RailSequenceLaw_116 (fun r e => t_L_cell hsc e) dL_law_83 hf rfl ⟨(Nat.le_of_ble_eq_true rfl), (Nat.le_of_ble_eq_true rfl)⟩ ⟨(show cs ≤ 600104 by omega), (show ss ≤ 7301313 by omega)⟩ (Nat.le_of_ble_eq_true rfl) (fun v6 hf => ?_)
    refine E_ldci (pc := 86) O (2147483647 : Int32) (aw3 97 (by decide +kernel) rfl) dL_law_86 ?_
    refine E_iand (pc := 88) O dL_law_88 ?_
    obtain ⟨v7, ev7, hf⟩ := ob hf
    have ev7 := os ev7
    rw [ev7]
    refine E_istore (pc := 89) O [some (.ref (RO + 0)), some (.ref x1), some (.ref x2), some (.ref x3), some (.ref x4), some (.ref x5), some (.ref x6), some (.int x7), some (.int v7), none] dL_law_89 (by decide) rfl rfl ?_
    refine E_aload_n (pc := 91) O 0 dL_law_91 rfl rfl ?_
    refine E_iconst (pc := 92) O (2 : Int32) dL_law_92 (by decide) ?_
    refine E_iload (pc := 93) O dL_law_93 rfl ?_
    refine E_imul (pc := 95) O dL_law_95 ?_
    refine E_iconst (pc := 96) O (1 : Int32) dL_law_96 (by decide) ?_
    refine E_iadd (pc := 97) O dL_law_97 ?_
    refine E_callS_iP (pc := 98) (S := []) O [.ref (RO + 0), .int (((2 : Int32) * x7) + (1 : Int32))] CS_RailSequenceLaw_116 (fun r e => t_L_cell hsc e) dL_law_98 hf rfl ⟨(Nat.le_of_ble_eq_true rfl), (Nat.le_of_ble_eq_true rfl)⟩ ⟨(show cs ≤ 600104 by omega), (show ss ≤ 7301313 by omega)⟩ (Nat.le_of_ble_eq_true rfl) (fun v8 hf => ?_)
    refine E_ldci (pc := 101) O (2147483647 : Int32) (aw3 97 (by decide +kernel) rfl) dL_law_101 ?_
    refine E_iand (pc := 103) O dL_law_103 ?_
    obtain ⟨v9, ev9, hf⟩ := ob hf
    have ev9 := os ev9
    rw [ev9]
    refine E_istore (pc := 104) O [some (.ref (RO + 0)), some (.ref x1), some (.ref x2), some (.ref x3), some (.ref x4), some (.ref x5), some (.ref x6), some (.int x7), some (.int v7), some (.int v9)] dL_law_104 (by decide) rfl rfl ?_
    refine E_aload_n (pc := 106) O 1 dL_law_106 rfl rfl ?_
    refine E_iload (pc := 107) O dL_law_107 rfl ?_
    refine E_iconst (pc := 109) O (3 : Int32) dL_law_109 (by decide) ?_
    refine E_icmp_ge (pc := 110) O 117 dL_law_110 (by decide) hf (fun hf => ?_) (fun hf => ?_)
    · refine E_iload (pc := 117) O dL_law_117 rfl ?_
      refine E_iconst (pc := 119) O (3 : Int32) dL_law_119 (by decide) ?_
      refine E_icmp_ne (pc := 120) O 128 dL_law_120 (by decide) hf (fun hf => ?_) (fun hf => ?_)
      · refine E_iload (pc := 128) O dL_law_128 rfl ?_
        refine E_bipush (pc := 130) O (13 : Int32) dL_law_130 (by decide) ?_
        refine E_ishr (pc := 132) O dL_law_132 ?_
        refine E_bipush (pc := 133) O (18 : Int32) dL_law_133 (by decide) ?_
        refine E_callS_iP (pc := 135) (S := [.ref x1]) O [.int (v7 >>> ((13 : Int32) &&& 31)), .int (18 : Int32)] CS_RailSequenceLaw_61 (fun r e => t_L_at e) dL_law_135 hf rfl ⟨(Nat.le_of_ble_eq_true rfl), (Nat.le_of_ble_eq_true rfl)⟩ ⟨(show cs ≤ 600104 by omega), (show ss ≤ 7301313 by omega)⟩ (Nat.le_of_ble_eq_true rfl) (fun v10 hf => ?_)
        exact t_b_L_law_138 O Z hsc hout hcs hss _ hr71 h x1 x2 x3 x4 x5 x6 x7 v7 v9 x1 v10 hf
      · refine E_bipush (pc := 123) O (7 : Int32) dL_law_123 (by decide) ?_
        refine E_goto (pc := 125) O 138 dL_law_125 (by decide) ?_
        exact t_b_L_law_138 O Z hsc hout hcs hss _ hr71 h x1 x2 x3 x4 x5 x6 x7 v7 v9 x1 (7 : Int32) hf
    · refine E_iconst (pc := 113) O (0 : Int32) dL_law_113 (by decide) ?_
      refine E_goto (pc := 114) O 138 dL_law_114 (by decide) ?_
      exact t_b_L_law_138 O Z hsc hout hcs hss _ hr71 h x1 x2 x3 x4 x5 x6 x7 v7 v9 x1 (0 : Int32) hf
theorem t_f_L_law_71 {K : Cx} {out : Int32} {sc : Nat × (Nat → Int32)} (O : Ok K "RailSequenceLaw" code 10 room_1) (Z : ∀ (cs ss : Nat) (pc : Nat) (L : List (Option Value)) (h : MH), cs ≤ 600104 → ss ≤ 7301313 → decode code pc = .ok (.ireturn, 1) → EE K (true, cs, ss) pc L [.int 1] h) (hsc : gro K.1 0 = sc) (hout : out = 1) : ∀ (n : Nat) {cs ss : Nat}, cs + 5 * n ≤ 600104 → ss + 155 * n ≤ 7301313 → ∀ (h : MH) (x1 : Nat) (x2 : Nat) (x3 : Nat) (x4 : Nat) (x5 : Nat) (x6 : Nat) (x7 : Int32), f_L_law_71 sc n h x1 x2 x3 x4 x5 x6 x7 = some out → EE K (true, cs, ss) 71 [some (.ref (RO + 0)), some (.ref x1), some (.ref x2), some (.ref x3), some (.ref x4), some (.ref x5), some (.ref x6), some (.int x7), none, none] [] h := by
  intro n
  induction n with
  | zero => intro cs ss _ _ h x1 x2 x3 x4 x5 x6 x7 hf; cases hf
  | succ n ih => intro cs ss h1 h2 h x1 x2 x3 x4 x5 x6 x7 hf; exact t_b_L_law_71 O Z hsc hout (by omega) (by omega) _ (ih (by omega) (by omega)) h x1 x2 x3 x4 x5 x6 x7 hf
set_option maxHeartbeats 4000000 in
set_option maxRecDepth 100000 in
theorem t_L_law {K : Cx} {out : Int32} {sc : Nat × (Nat → Int32)} (O : Ok K "RailSequenceLaw" code 10 room_1) (Z : ∀ (cs ss : Nat) (pc : Nat) (L : List (Option Value)) (h : MH), cs ≤ 600104 → ss ≤ 7301313 → decode code pc = .ok (.ireturn, 1) → EE K (true, cs, ss) pc L [.int 1] h) (hsc : gro K.1 0 = sc) (hout : out = 1) (h : MH) (hf : f_L_law sc h = some out) : EE K (true, 0, 0) 0 [some (.ref (RO + 0)), none, none, none, none, none, none, none, none, none] [] h := by
  unfold f_L_law at hf
  refine E_new (pc := 0) O NW_RailSequenceLaw_23 dL_law_0 hf ⟨(Nat.le_of_ble_eq_true rfl), (Nat.le_of_ble_eq_true rfl)⟩ (fun h11 hf => ?_)
  show EE K (true, 1, 7) _ _ _ _
  refine E_dup (pc := 3) O dL_law_3 rfl ?_
  refine E_callI (pc := 4) O CI_RailSequenceLaw_111 rfl (aw1 16 (by decide +kernel) rfl) (fun r e => t_X3_init e) dL_law_4 hf ⟨(Nat.le_of_ble_eq_true rfl), (Nat.le_of_ble_eq_true rfl)⟩ ⟨(Nat.le_of_ble_eq_true rfl), (Nat.le_of_ble_eq_true rfl)⟩ (Nat.le_of_ble_eq_true rfl) (fun h12 hf => ?_)
  show EE K (true, 133, 2160) _ _ _ _
  obtain ⟨v13, ev13, hf⟩ := ob hf
  have ev13 := os ev13
  rw [ev13]
  refine E_astore_n (pc := 7) O 1 [some (.ref (RO + 0)), some (.ref v13), none, none, none, none, none, none, none, none] dL_law_7 rfl (by decide) rfl rfl ?_
  refine E_bipush (pc := 8) O (42 : Int32) dL_law_8 (by decide) ?_
  refine E_newaI (pc := 10) O (aw1 41 (by decide +kernel) rfl) dL_law_10 (by decide) (by decide) (Nat.le_of_ble_eq_true rfl) hf ⟨(Nat.le_of_ble_eq_true rfl), (Nat.le_of_ble_eq_true rfl)⟩ (fun h14 hf => ?_)
  show EE K (true, 134, 2202) _ _ _ _
  obtain ⟨v15, ev15, hf⟩ := ob hf
  have ev15 := os ev15
  rw [ev15]
  refine E_astore_n (pc := 12) O 2 [some (.ref (RO + 0)), some (.ref v13), some (.ref v15), none, none, none, none, none, none, none] dL_law_12 rfl (by decide) rfl rfl ?_
  refine E_bipush (pc := 13) O (54 : Int32) dL_law_13 (by decide) ?_
  refine E_newaI (pc := 15) O (aw1 41 (by decide +kernel) rfl) dL_law_15 (by decide) (by decide) (Nat.le_of_ble_eq_true rfl) hf ⟨(Nat.le_of_ble_eq_true rfl), (Nat.le_of_ble_eq_true rfl)⟩ (fun h16 hf => ?_)
  show EE K (true, 135, 2256) _ _ _ _
  obtain ⟨v17, ev17, hf⟩ := ob hf
  have ev17 := os ev17
  rw [ev17]
  refine E_astore_n (pc := 17) O 3 [some (.ref (RO + 0)), some (.ref v13), some (.ref v15), some (.ref v17), none, none, none, none, none, none] dL_law_17 rfl (by decide) rfl rfl ?_
  refine E_bipush (pc := 18) O (24 : Int32) dL_law_18 (by decide) ?_
  refine E_newaI (pc := 20) O (aw1 41 (by decide +kernel) rfl) dL_law_20 (by decide) (by decide) (Nat.le_of_ble_eq_true rfl) hf ⟨(Nat.le_of_ble_eq_true rfl), (Nat.le_of_ble_eq_true rfl)⟩ (fun h18 hf => ?_)
  show EE K (true, 136, 2280) _ _ _ _
  obtain ⟨v19, ev19, hf⟩ := ob hf
  have ev19 := os ev19
  rw [ev19]
  refine E_astore (pc := 22) O [some (.ref (RO + 0)), some (.ref v13), some (.ref v15), some (.ref v17), some (.ref v19), none, none, none, none, none] dL_law_22 (by decide) rfl rfl ?_
  refine E_bipush (pc := 24) O (64 : Int32) dL_law_24 (by decide) ?_
  refine E_newaI (pc := 26) O (aw1 41 (by decide +kernel) rfl) dL_law_26 (by decide) (by decide) (Nat.le_of_ble_eq_true rfl) hf ⟨(Nat.le_of_ble_eq_true rfl), (Nat.le_of_ble_eq_true rfl)⟩ (fun h20 hf => ?_)
  show EE K (true, 137, 2344) _ _ _ _
  obtain ⟨v21, ev21, hf⟩ := ob hf
  have ev21 := os ev21
  rw [ev21]
  refine E_astore (pc := 28) O [some (.ref (RO + 0)), some (.ref v13), some (.ref v15), some (.ref v17), some (.ref v19), some (.ref v21), none, none, none, none] dL_law_28 (by decide) rfl rfl ?_
  refine E_bipush (pc := 30) O (6 : Int32) dL_law_30 (by decide) ?_
  refine E_newaI (pc := 32) O (aw1 41 (by decide +kernel) rfl) dL_law_32 (by decide) (by decide) (Nat.le_of_ble_eq_true rfl) hf ⟨(Nat.le_of_ble_eq_true rfl), (Nat.le_of_ble_eq_true rfl)⟩ (fun h22 hf => ?_)
  show EE K (true, 138, 2350) _ _ _ _
  obtain ⟨v23, ev23, hf⟩ := ob hf
  have ev23 := os ev23
  rw [ev23]
  refine E_astore (pc := 34) O [some (.ref (RO + 0)), some (.ref v13), some (.ref v15), some (.ref v17), some (.ref v19), some (.ref v21), some (.ref v23), none, none, none] dL_law_34 (by decide) rfl rfl ?_
  refine E_aload (pc := 36) O dL_law_36 rfl ?_
  refine E_iconst (pc := 38) O (1 : Int32) dL_law_38 (by decide) ?_
  refine E_bipush (pc := 39) O (100 : Int32) dL_law_39 (by decide) ?_
  refine E_iastore (pc := 41) O dL_law_41 hf (fun h24 hf => ?_)
  refine E_aload_n (pc := 42) O 1 dL_law_42 rfl rfl ?_
  refine E_aload_n (pc := 43) O 2 dL_law_43 rfl rfl ?_
  refine E_aload_n (pc := 44) O 3 dL_law_44 rfl rfl ?_
  refine E_aload (pc := 45) O dL_law_45 rfl ?_
  refine E_aload (pc := 47) O dL_law_47 rfl ?_
  refine E_aload (pc := 49) O dL_law_49 rfl ?_
  refine E_callS_i (pc := 51) (S := []) O [.ref v13, .ref v15, .ref v17, .ref v19, .ref v21, .ref v23] CS_RailSequenceLaw_112 (fun r e => t_L_told e) dL_law_51 hf rfl ⟨(Nat.le_of_ble_eq_true rfl), (Nat.le_of_ble_eq_true rfl)⟩ ⟨(Nat.le_of_ble_eq_true rfl), (Nat.le_of_ble_eq_true rfl)⟩ (Nat.le_of_ble_eq_true rfl) (fun p25 hf => ?_)
  refine E_if_eq (pc := 54) O 66 dL_law_54 (by decide) hf (fun hf => ?_) (fun hf => ?_)
  · exact E_sub (L' := [none, none, none, none, none, none, none, none, none, none]) True.intro (t_b_L_law_66 O Z hsc hout (Nat.le_of_ble_eq_true rfl) (Nat.le_of_ble_eq_true rfl) p25.2 hf)
  · refine E_aload_n (pc := 57) O 1 dL_law_57 rfl rfl ?_
    refine E_bipush (pc := 58) O (8 : Int32) dL_law_58 (by decide) ?_
    refine E_callV_i (pc := 60) (S := []) O [.int (8 : Int32)] CV_RailSequenceLaw_46 rfl (fun r e => t_X3_count e) dL_law_60 hf rfl ⟨(Nat.le_of_ble_eq_true rfl), (Nat.le_of_ble_eq_true rfl)⟩ ⟨(Nat.le_of_ble_eq_true rfl), (Nat.le_of_ble_eq_true rfl)⟩ (Nat.le_of_ble_eq_true rfl) (fun p26 hf => ?_)
    refine E_if_eq (pc := 63) O 68 dL_law_63 (by decide) hf (fun hf => ?_) (fun hf => ?_)
    · refine E_iconst (pc := 68) O (0 : Int32) dL_law_68 (by decide) ?_
      refine E_istore (pc := 69) O [some (.ref (RO + 0)), some (.ref v13), some (.ref v15), some (.ref v17), some (.ref v19), some (.ref v21), some (.ref v23), some (.int (0 : Int32)), none, none] dL_law_69 (by decide) rfl rfl ?_
      exact t_f_L_law_71 O Z hsc hout FU (cs := 138) (ss := 2350) (show 138 + 5 * 3000 ≤ 600104 by decide) (show 2350 + 155 * 3000 ≤ 7301313 by decide) p26.2 v13 v15 v17 v19 v21 v23 (0 : Int32) hf
    · exact E_sub (L' := [none, none, none, none, none, none, none, none, none, none]) True.intro (t_b_L_law_66 O Z hsc hout (Nat.le_of_ble_eq_true rfl) (Nat.le_of_ble_eq_true rfl) p26.2 hf)
