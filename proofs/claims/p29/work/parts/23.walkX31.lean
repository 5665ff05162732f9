/-! walks: the machine does what the plain functions say: written by program -/
set_option maxHeartbeats 4000000 in
set_option maxRecDepth 100000 in
theorem t_b_X3_countOf_160 {K : Cx} {fr : Bool} {out : (Int32 × MH)} (O : Ok K yX3_countOf.cls cX3_countOf 2 (rmm 5 129 0 0)) (Z : Out K (some .int) fr (some (.int out.1)) out.2) (h : MH) (s0 : Int32) (hf : b_X3_countOf_160 h s0 = some out) : EE K (fr, 0, 0) 160 [none, none] [.int s0] h := by
  unfold b_X3_countOf_160 at hf
  exact E_iret (pc := 160) O Z hf ⟨(Nat.le_of_ble_eq_true rfl), (Nat.le_of_ble_eq_true rfl)⟩ dX3_countOf_160
set_option maxHeartbeats 4000000 in
set_option maxRecDepth 100000 in
theorem t_X3_countOf {g : Gx} {fr : Bool} {h : MH} {x0 x1} {out : (Int32 × MH)} (hf : f_X3_countOf h x0 x1 = some out) : MM g yX3_countOf cX3_countOf 2 (some .int) 5 129 0 0 fr fr [.ref x0, .int x1] h (some (.int out.1)) out.2 := by
  unfold f_X3_countOf at hf
  refine MM_of (L := [some (.ref x0), some (.int x1)]) (by decide) (Nat.le_of_ble_eq_true rfl) rfl (fun K hK O Z hn => ?_)
  refine E_iload_n (pc := 0) O 1 dX3_countOf_0 rfl rfl ?_
  refine E_ite hf (fun c1 hf => ?_) (fun n1_0 hf => ?_)
  · refine E_tswIn (pc := 1) (off := 51) O 0 52 c1 dX3_countOf_1 (by decide) (by decide) (by decide) (by decide) ?_
    refine E_aload_n (pc := 52) O 0 dX3_countOf_52 rfl rfl ?_
    refine E_getR (pc := 53) O FL_RailSequence_10 dX3_countOf_53 hf (fun v1 hf => ?_)
    refine E_getI (pc := 56) O FL_RailSequence_51 dX3_countOf_56 hf (fun v2 hf => ?_)
    exact E_iret (pc := 59) O Z hf ⟨(Nat.le_of_ble_eq_true rfl), (Nat.le_of_ble_eq_true rfl)⟩ dX3_countOf_59
  · refine E_ite hf (fun c1 hf => ?_) (fun n1_1 hf => ?_)
    · refine E_tswIn (pc := 1) (off := 59) O 1 60 c1 dX3_countOf_1 (by decide) (by decide) (by decide) (by decide) ?_
      refine E_aload_n (pc := 60) O 0 dX3_countOf_60 rfl rfl ?_
      refine E_getR (pc := 61) O FL_RailSequence_10 dX3_countOf_61 hf (fun v3 hf => ?_)
      refine E_getI (pc := 64) O FL_RailSequence_134 dX3_countOf_64 hf (fun v4 hf => ?_)
      exact E_iret (pc := 67) O Z hf ⟨(Nat.le_of_ble_eq_true rfl), (Nat.le_of_ble_eq_true rfl)⟩ dX3_countOf_67
    · refine E_ite hf (fun c1 hf => ?_) (fun n1_2 hf => ?_)
      · refine E_tswIn (pc := 1) (off := 67) O 2 68 c1 dX3_countOf_1 (by decide) (by decide) (by decide) (by decide) ?_
        refine E_aload_n (pc := 68) O 0 dX3_countOf_68 rfl rfl ?_
        refine E_getR (pc := 69) O FL_RailSequence_10 dX3_countOf_69 hf (fun v5 hf => ?_)
        refine E_getI (pc := 72) O FL_RailSequence_101 dX3_countOf_72 hf (fun v6 hf => ?_)
        exact E_iret (pc := 75) O Z hf ⟨(Nat.le_of_ble_eq_true rfl), (Nat.le_of_ble_eq_true rfl)⟩ dX3_countOf_75
      · refine E_ite hf (fun c1 hf => ?_) (fun n1_3 hf => ?_)
        · refine E_tswIn (pc := 1) (off := 75) O 3 76 c1 dX3_countOf_1 (by decide) (by decide) (by decide) (by decide) ?_
          refine E_aload_n (pc := 76) O 0 dX3_countOf_76 rfl rfl ?_
          refine E_getR (pc := 77) O FL_RailSequence_10 dX3_countOf_77 hf (fun v7 hf => ?_)
          refine E_getI (pc := 80) O FL_RailSequence_106 dX3_countOf_80 hf (fun v8 hf => ?_)
          exact E_iret (pc := 83) O Z hf ⟨(Nat.le_of_ble_eq_true rfl), (Nat.le_of_ble_eq_true rfl)⟩ dX3_countOf_83
        · refine E_ite hf (fun c1 hf => ?_) (fun n1_4 hf => ?_)
          · refine E_tswIn (pc := 1) (off := 83) O 4 84 c1 dX3_countOf_1 (by decide) (by decide) (by decide) (by decide) ?_
            refine E_aload_n (pc := 84) O 0 dX3_countOf_84 rfl rfl ?_
            refine E_getR (pc := 85) O FL_RailSequence_10 dX3_countOf_85 hf (fun v9 hf => ?_)
            refine E_iconst (pc := 88) O (3 : Int32) dX3_countOf_88 (by decide) ?_
            refine E_callV_iP (pc := 89) (S := []) O [.int (3 : Int32)] CV_RailSequence_205 rfl (fun r e => t_X1_maskOf e) dX3_countOf_89 hf rfl ⟨(Nat.le_of_ble_eq_true rfl), (Nat.le_of_ble_eq_true rfl)⟩ ⟨(Nat.le_of_ble_eq_true rfl), (Nat.le_of_ble_eq_true rfl)⟩ (Nat.le_of_ble_eq_true rfl) (fun v10 hf => ?_)
            exact E_iret (pc := 92) O Z hf ⟨(Nat.le_of_ble_eq_true rfl), (Nat.le_of_ble_eq_true rfl)⟩ dX3_countOf_92
          · refine E_ite hf (fun c1 hf => ?_) (fun n1_5 hf => ?_)
            · refine E_tswIn (pc := 1) (off := 92) O 5 93 c1 dX3_countOf_1 (by decide) (by decide) (by decide) (by decide) ?_
              refine E_aload_n (pc := 93) O 0 dX3_countOf_93 rfl rfl ?_
              refine E_getR (pc := 94) O FL_RailSequence_10 dX3_countOf_94 hf (fun v11 hf => ?_)
              refine E_iconst (pc := 97) O (5 : Int32) dX3_countOf_97 (by decide) ?_
              refine E_callV_iP (pc := 98) (S := []) O [.int (5 : Int32)] CV_RailSequence_205 rfl (fun r e => t_X1_maskOf e) dX3_countOf_98 hf rfl ⟨(Nat.le_of_ble_eq_true rfl), (Nat.le_of_ble_eq_true rfl)⟩ ⟨(Nat.le_of_ble_eq_true rfl), (Nat.le_of_ble_eq_true rfl)⟩ (Nat.le_of_ble_eq_true rfl) (fun v12 hf => ?_)
              exact E_iret (pc := 101) O Z hf ⟨(Nat.le_of_ble_eq_true rfl), (Nat.le_of_ble_eq_true rfl)⟩ dX3_countOf_101
            · refine E_ite hf (fun c1 hf => ?_) (fun n1_6 hf => ?_)
              · refine E_tswIn (pc := 1) (off := 101) O 6 102 c1 dX3_countOf_1 (by decide) (by decide) (by decide) (by decide) ?_
                refine E_aload_n (pc := 102) O 0 dX3_countOf_102 rfl rfl ?_
                refine E_getR (pc := 103) O FL_RailSequence_10 dX3_countOf_103 hf (fun v13 hf => ?_)
                refine E_getR (pc := 106) O FL_RailSequence_187 dX3_countOf_106 hf (fun v14 hf => ?_)
                refine E_getI (pc := 109) O FL_RailSequence_191 dX3_countOf_109 hf (fun v15 hf => ?_)
                exact E_iret (pc := 112) O Z hf ⟨(Nat.le_of_ble_eq_true rfl), (Nat.le_of_ble_eq_true rfl)⟩ dX3_countOf_112
              · refine E_ite hf (fun c1 hf => ?_) (fun n1_7 hf => ?_)
                · refine E_tswIn (pc := 1) (off := 112) O 7 113 c1 dX3_countOf_1 (by decide) (by decide) (by decide) (by decide) ?_
                  refine E_aload_n (pc := 113) O 0 dX3_countOf_113 rfl rfl ?_
                  refine E_getR (pc := 114) O FL_RailSequence_10 dX3_countOf_114 hf (fun v16 hf => ?_)
                  refine E_callV_iP (pc := 117) (S := []) O [] CV_RailSequence_277 rfl (fun r e => t_X1_sumOfVoltages e) dX3_countOf_117 hf rfl ⟨(Nat.le_of_ble_eq_true rfl), (Nat.le_of_ble_eq_true rfl)⟩ ⟨(Nat.le_of_ble_eq_true rfl), (Nat.le_of_ble_eq_true rfl)⟩ (Nat.le_of_ble_eq_true rfl) (fun v17 hf => ?_)
                  exact E_iret (pc := 120) O Z hf ⟨(Nat.le_of_ble_eq_true rfl), (Nat.le_of_ble_eq_true rfl)⟩ dX3_countOf_120
                · refine E_ite hf (fun c1 hf => ?_) (fun n1_8 hf => ?_)
                  · refine E_tswIn (pc := 1) (off := 120) O 8 121 c1 dX3_countOf_1 (by decide) (by decide) (by decide) (by decide) ?_
                    refine E_aload_n (pc := 121) O 0 dX3_countOf_121 rfl rfl ?_
                    refine E_getI (pc := 122) O FL_RailSequence_168 dX3_countOf_122 hf (fun v18 hf => ?_)
                    exact E_iret (pc := 125) O Z hf ⟨(Nat.le_of_ble_eq_true rfl), (Nat.le_of_ble_eq_true rfl)⟩ dX3_countOf_125
                  · refine E_tswOut (pc := 1) O 126 dX3_countOf_1 (by have z := tsw_out 0 9 (by decide) (lt_s (lt_s (lt_s (lt_s (lt_s (lt_s (lt_s (lt_s (lt_s lt_0 n1_0) n1_1) n1_2) n1_3) n1_4) n1_5) n1_6) n1_7) n1_8); omega) (by decide) ?_
                    refine E_aload_n (pc := 126) O 0 dX3_countOf_126 rfl rfl ?_
                    refine E_getR (pc := 127) O FL_RailSequence_16 dX3_countOf_127 hf (fun v19 hf => ?_)
                    refine E_aload_n (pc := 130) O 0 dX3_countOf_130 rfl rfl ?_
                    refine E_getR (pc := 131) O FL_RailSequence_10 dX3_countOf_131 hf (fun v20 hf => ?_)
                    refine E_callV_v (pc := 134) (S := []) O [.ref v20] CV_RailSequence_164 rfl (fun r e => t_X1_copyFrom e) dX3_countOf_134 hf rfl ⟨(Nat.le_of_ble_eq_true rfl), (Nat.le_of_ble_eq_true rfl)⟩ ⟨(Nat.le_of_ble_eq_true rfl), (Nat.le_of_ble_eq_true rfl)⟩ (Nat.le_of_ble_eq_true rfl) (fun h21 hf => ?_)
                    refine E_aload_n (pc := 137) O 0 dX3_countOf_137 rfl rfl ?_
                    refine E_getR (pc := 138) O FL_RailSequence_16 dX3_countOf_138 hf (fun v22 hf => ?_)
                    refine E_callV_i (pc := 141) (S := []) O [] CV_RailSequence_139 rfl (fun r e => t_X1_passTick e) dX3_countOf_141 hf rfl ⟨(Nat.le_of_ble_eq_true rfl), (Nat.le_of_ble_eq_true rfl)⟩ ⟨(Nat.le_of_ble_eq_true rfl), (Nat.le_of_ble_eq_true rfl)⟩ (Nat.le_of_ble_eq_true rfl) (fun p23 hf => ?_)
                    refine E_pop (pc := 144) O dX3_countOf_144 rfl ?_
                    refine E_aload_n (pc := 145) O 0 dX3_countOf_145 rfl rfl ?_
                    refine E_getR (pc := 146) O FL_RailSequence_16 dX3_countOf_146 hf (fun v24 hf => ?_)
                    refine E_callV_iP (pc := 149) (S := []) O [] CV_RailSequence_211 rfl (fun r e => t_X1_wasStill e) dX3_countOf_149 hf rfl ⟨(Nat.le_of_ble_eq_true rfl), (Nat.le_of_ble_eq_true rfl)⟩ ⟨(Nat.le_of_ble_eq_true rfl), (Nat.le_of_ble_eq_true rfl)⟩ (Nat.le_of_ble_eq_true rfl) (fun v25 hf => ?_)
                    refine E_if_eq (pc := 152) O 159 dX3_countOf_152 (by decide) hf (fun hf => ?_) (fun hf => ?_)
                    · refine E_iconst (pc := 159) O (0 : Int32) dX3_countOf_159 (by decide) ?_
                      exact E_sub (L' := [none, none]) True.intro (t_b_X3_countOf_160 O Z p23.2 (0 : Int32) hf)
                    · refine E_iconst (pc := 155) O (1 : Int32) dX3_countOf_155 (by decide) ?_
                      refine E_goto (pc := 156) O 160 dX3_countOf_156 (by decide) ?_
                      exact E_sub (L' := [none, none]) True.intro (t_b_X3_countOf_160 O Z p23.2 (1 : Int32) hf)
set_option maxHeartbeats 4000000 in
set_option maxRecDepth 100000 in
theorem t_b_X3_count_10 {K : Cx} {fr : Bool} {out : (Int32 × MH)} (O : Ok K yX3_count.cls cX3_count 2 (rmm 6 150 0 0)) (Z : Out K (some .int) fr (some (.int out.1)) out.2) (h : MH) (hf : b_X3_count_10 h = some out) : EE K (fr, 0, 0) 10 [none, none] [] h := by
  unfold b_X3_count_10 at hf
  cases hf
set_option maxHeartbeats 4000000 in
set_option maxRecDepth 100000 in
theorem t_X3_count {g : Gx} {fr : Bool} {h : MH} {x0 x1} {out : (Int32 × MH)} (hf : f_X3_count h x0 x1 = some out) : MM g yX3_count cX3_count 2 (some .int) 6 150 0 0 fr fr [.ref x0, .int x1] h (some (.int out.1)) out.2 := by
  unfold f_X3_count at hf
  refine MM_of (L := [some (.ref x0), some (.int x1)]) (by decide) (Nat.le_of_ble_eq_true rfl) rfl (fun K hK O Z hn => ?_)
  refine E_iload_n (pc := 0) O 1 dX3_count_0 rfl rfl ?_
  refine E_if_lt (pc := 1) O 10 dX3_count_1 (by decide) hf (fun hf => ?_) (fun hf => ?_)
  · exact E_sub (L' := [none, none]) True.intro (t_b_X3_count_10 O Z h hf)
  · refine E_iload_n (pc := 4) O 1 dX3_count_4 rfl rfl ?_
    refine E_bipush (pc := 5) O (10 : Int32) dX3_count_5 (by decide) ?_
    refine E_icmp_lt (pc := 7) O 20 dX3_count_7 (by decide) hf (fun hf => ?_) (fun hf => ?_)
    · refine E_aload_n (pc := 20) O 0 dX3_count_20 rfl rfl ?_
      refine E_iload_n (pc := 21) O 1 dX3_count_21 rfl rfl ?_
      refine E_callV_i (pc := 22) (S := []) O [.int x1] CV_RailSequence_202 rfl (fun r e => t_X3_countOf e) dX3_count_22 hf rfl ⟨(Nat.le_of_ble_eq_true rfl), (Nat.le_of_ble_eq_true rfl)⟩ ⟨(Nat.le_of_ble_eq_true rfl), (Nat.le_of_ble_eq_true rfl)⟩ (Nat.le_of_ble_eq_true rfl) (fun p1 hf => ?_)
      exact E_iret (pc := 25) O Z hf ⟨(Nat.le_of_ble_eq_true rfl), (Nat.le_of_ble_eq_true rfl)⟩ dX3_count_25
    · exact E_sub (L' := [none, none]) True.intro (t_b_X3_count_10 O Z h hf)
set_option maxHeartbeats 4000000 in
set_option maxRecDepth 100000 in
theorem t_b_X3_allGoodIn_83 {K : Cx} {fr : Bool} {out : (Int32 × MH)} (O : Ok K yX3_allGoodIn.cls cX3_allGoodIn 3 (rmm 5 129 0 0)) (Z : Out K (some .int) fr (some (.int out.1)) out.2) (rec13 : MH → Nat → Int32 → Option (Int32 × MH)) (hr13 : ∀ (h : MH) (x0 : Nat) (x1 : Int32), rec13 h x0 x1 = some out → EE K (fr, 0, 0) 13 [some (.ref x0), some (.int x1), none] [] h) (h : MH) (x0 : Nat) (x1 : Int32) (hf : b_X3_allGoodIn_83 rec13 h x0 x1 = some out) : EE K (fr, 0, 0) 83 [some (.ref x0), some (.int x1), none] [] h := by
  unfold b_X3_allGoodIn_83 at hf
  refine E_iinc (pc := 83) O (1 : Int32) [some (.ref x0), some (.int (x1 + (1 : Int32))), none] dX3_allGoodIn_83 rfl (by decide) rfl (by decide) rfl ?_
  refine E_goto (pc := 86) O 13 dX3_allGoodIn_86 (by decide) ?_
  exact hr13 h x0 (x1 + (1 : Int32)) hf
set_option maxHeartbeats 4000000 in
set_option maxRecDepth 100000 in
theorem t_b_X3_allGoodIn_58 {K : Cx} {fr : Bool} {out : (Int32 × MH)} (O : Ok K yX3_allGoodIn.cls cX3_allGoodIn 3 (rmm 5 129 0 0)) (Z : Out K (some .int) fr (some (.int out.1)) out.2) (rec13 : MH → Nat → Int32 → Option (Int32 × MH)) (hr13 : ∀ (h : MH) (x0 : Nat) (x1 : Int32), rec13 h x0 x1 = some out → EE K (fr, 0, 0) 13 [some (.ref x0), some (.int x1), none] [] h) (h : MH) (x0 : Nat) (x1 : Int32) (s0 : Int32) (hf : b_X3_allGoodIn_58 rec13 h x0 x1 s0 = some out) : EE K (fr, 0, 0) 58 [some (.ref x0), some (.int x1), none] [.int s0] h := by
  unfold b_X3_allGoodIn_58 at hf
  refine E_istore_n (pc := 58) O 2 [some (.ref x0), some (.int x1), some (.int s0)] dX3_allGoodIn_58 rfl (by decide) rfl rfl ?_
  refine E_aload_n (pc := 59) O 0 dX3_allGoodIn_59 rfl rfl ?_
  refine E_getR (pc := 60) O FL_RailSequence_16 dX3_allGoodIn_60 hf (fun v1 hf => ?_)
  refine E_callV_i (pc := 63) (S := []) O [] CV_RailSequence_139 rfl (fun r e => t_X1_passTick e) dX3_allGoodIn_63 hf rfl ⟨(Nat.le_of_ble_eq_true rfl), (Nat.le_of_ble_eq_true rfl)⟩ ⟨(Nat.le_of_ble_eq_true rfl), (Nat.le_of_ble_eq_true rfl)⟩ (Nat.le_of_ble_eq_true rfl) (fun p2 hf => ?_)
  refine E_pop (pc := 66) O dX3_allGoodIn_66 rfl ?_
  refine E_iload_n (pc := 67) O 2 dX3_allGoodIn_67 rfl rfl ?_
  refine E_if_eq (pc := 68) O 83 dX3_allGoodIn_68 (by decide) hf (fun hf => ?_) (fun hf => ?_)
  · exact E_sub (L' := [some (.ref x0), some (.int x1), none]) (And.intro rfl (And.intro rfl True.intro)) (t_b_X3_allGoodIn_83 O Z _ hr13 p2.2 x0 x1 hf)
  · refine E_aload_n (pc := 71) O 0 dX3_allGoodIn_71 rfl rfl ?_
    refine E_getR (pc := 72) O FL_RailSequence_16 dX3_allGoodIn_72 hf (fun v3 hf => ?_)
    refine E_callV_iP (pc := 75) (S := []) O [] CV_RailSequence_211 rfl (fun r e => t_X1_wasStill e) dX3_allGoodIn_75 hf rfl ⟨(Nat.le_of_ble_eq_true rfl), (Nat.le_of_ble_eq_true rfl)⟩ ⟨(Nat.le_of_ble_eq_true rfl), (Nat.le_of_ble_eq_true rfl)⟩ (Nat.le_of_ble_eq_true rfl) (fun v4 hf => ?_)
    refine E_if_eq (pc := 78) O 83 dX3_allGoodIn_78 (by decide) hf (fun hf => ?_) (fun hf => ?_)
    · exact E_sub (L' := [some (.ref x0), some (.int x1), none]) (And.intro rfl (And.intro rfl True.intro)) (t_b_X3_allGoodIn_83 O Z _ hr13 p2.2 x0 x1 hf)
    · refine E_iconst (pc := 81) O (-1 : Int32) dX3_allGoodIn_81 (by decide) ?_
      exact E_iret (pc := 82) O Z hf ⟨(Nat.le_of_ble_eq_true rfl), (Nat.le_of_ble_eq_true rfl)⟩ dX3_allGoodIn_82
set_option maxHeartbeats 4000000 in
set_option maxRecDepth 100000 in
theorem t_b_X3_allGoodIn_13 {K : Cx} {fr : Bool} {out : (Int32 × MH)} (O : Ok K yX3_allGoodIn.cls cX3_allGoodIn 3 (rmm 5 129 0 0)) (Z : Out K (some .int) fr (some (.int out.1)) out.2) (rec13 : MH → Nat → Int32 → Option (Int32 × MH)) (hr13 : ∀ (h : MH) (x0 : Nat) (x1 : Int32), rec13 h x0 x1 = some out → EE K (fr, 0, 0) 13 [some (.ref x0), some (.int x1), none] [] h) (h : MH) (x0 : Nat) (x1 : Int32) (hf : b_X3_allGoodIn_13 rec13 h x0 x1 = some out) : EE K (fr, 0, 0) 13 [some (.ref x0), some (.int x1), none] [] h := by
  unfold b_X3_allGoodIn_13 at hf
  refine E_iload_n (pc := 13) O 1 dX3_allGoodIn_13 rfl rfl ?_
  refine E_sipush (pc := 14) O (1000 : Int32) dX3_allGoodIn_14 (by decide) ?_
  refine E_icmp_gt (pc := 17) O 89 dX3_allGoodIn_17 (by decide) hf (fun hf => ?_) (fun hf => ?_)
  · refine E_iconst (pc := 89) O (-1 : Int32) dX3_allGoodIn_89 (by decide) ?_
    exact E_iret (pc := 90) O Z hf ⟨(Nat.le_of_ble_eq_true rfl), (Nat.le_of_ble_eq_true rfl)⟩ dX3_allGoodIn_90
  · refine E_aload_n (pc := 20) O 0 dX3_allGoodIn_20 rfl rfl ?_
    refine E_getR (pc := 21) O FL_RailSequence_16 dX3_allGoodIn_21 hf (fun v5 hf => ?_)
    refine E_getI (pc := 24) O FL_RailSequence_106 dX3_allGoodIn_24 hf (fun v6 hf => ?_)
    refine E_aload_n (pc := 27) O 0 dX3_allGoodIn_27 rfl rfl ?_
    refine E_getR (pc := 28) O FL_RailSequence_16 dX3_allGoodIn_28 hf (fun v7 hf => ?_)
    refine E_iconst (pc := 31) O (3 : Int32) dX3_allGoodIn_31 (by decide) ?_
    refine E_callV_iP (pc := 32) (S := [.int v6]) O [.int (3 : Int32)] CV_RailSequence_205 rfl (fun r e => t_X1_maskOf e) dX3_allGoodIn_32 hf rfl ⟨(Nat.le_of_ble_eq_true rfl), (Nat.le_of_ble_eq_true rfl)⟩ ⟨(Nat.le_of_ble_eq_true rfl), (Nat.le_of_ble_eq_true rfl)⟩ (Nat.le_of_ble_eq_true rfl) (fun v8 hf => ?_)
    refine E_iconst (pc := 35) O (-1 : Int32) dX3_allGoodIn_35 (by decide) ?_
    refine E_ixor (pc := 36) O dX3_allGoodIn_36 ?_
    refine E_iand (pc := 37) O dX3_allGoodIn_37 ?_
    refine E_if_ne (pc := 38) O 43 dX3_allGoodIn_38 (by decide) hf (fun hf => ?_) (fun hf => ?_)
    · refine E_aload_n (pc := 43) O 0 dX3_allGoodIn_43 rfl rfl ?_
      refine E_getR (pc := 44) O FL_RailSequence_16 dX3_allGoodIn_44 hf (fun v9 hf => ?_)
      refine E_callV_iP (pc := 47) (S := []) O [] CV_RailSequence_208 rfl (fun r e => t_X1_isAnyShorted e) dX3_allGoodIn_47 hf rfl ⟨(Nat.le_of_ble_eq_true rfl), (Nat.le_of_ble_eq_true rfl)⟩ ⟨(Nat.le_of_ble_eq_true rfl), (Nat.le_of_ble_eq_true rfl)⟩ (Nat.le_of_ble_eq_true rfl) (fun v10 hf => ?_)
      refine E_if_ne (pc := 50) O 57 dX3_allGoodIn_50 (by decide) hf (fun hf => ?_) (fun hf => ?_)
      · refine E_iconst (pc := 57) O (0 : Int32) dX3_allGoodIn_57 (by decide) ?_
        exact t_b_X3_allGoodIn_58 O Z _ hr13 h x0 x1 (0 : Int32) hf
      · refine E_iconst (pc := 53) O (1 : Int32) dX3_allGoodIn_53 (by decide) ?_
        refine E_goto (pc := 54) O 58 dX3_allGoodIn_54 (by decide) ?_
        exact t_b_X3_allGoodIn_58 O Z _ hr13 h x0 x1 (1 : Int32) hf
    · refine E_iload_n (pc := 41) O 1 dX3_allGoodIn_41 rfl rfl ?_
      exact E_iret (pc := 42) O Z hf ⟨(Nat.le_of_ble_eq_true rfl), (Nat.le_of_ble_eq_true rfl)⟩ dX3_allGoodIn_42
theorem t_f_X3_allGoodIn_13 {K : Cx} {fr : Bool} {out : (Int32 × MH)} (O : Ok K yX3_allGoodIn.cls cX3_allGoodIn 3 (rmm 5 129 0 0)) (Z : Out K (some .int) fr (some (.int out.1)) out.2) : ∀ (n : Nat) (h : MH) (x0 : Nat) (x1 : Int32), f_X3_allGoodIn_13 n h x0 x1 = some out → EE K (fr, 0, 0) 13 [some (.ref x0), some (.int x1), none] [] h := by
  intro n
  induction n with
  | zero => intro h x0 x1 hf; cases hf
  | succ n ih => intro h x0 x1 hf; exact t_b_X3_allGoodIn_13 O Z _ ih h x0 x1 hf
set_option maxHeartbeats 4000000 in
set_option maxRecDepth 100000 in
theorem t_X3_allGoodIn {g : Gx} {fr : Bool} {h : MH} {x0} {out : (Int32 × MH)} (hf : f_X3_allGoodIn h x0 = some out) : MM g yX3_allGoodIn cX3_allGoodIn 3 (some .int) 5 129 0 0 fr fr [.ref x0] h (some (.int out.1)) out.2 := by
  unfold f_X3_allGoodIn at hf
  refine MM_of (L := [some (.ref x0), none, none]) (by decide) (Nat.le_of_ble_eq_true rfl) rfl (fun K hK O Z hn => ?_)
  refine E_aload_n (pc := 0) O 0 dX3_allGoodIn_0 rfl rfl ?_
  refine E_getR (pc := 1) O FL_RailSequence_16 dX3_allGoodIn_1 hf (fun v11 hf => ?_)
  refine E_aload_n (pc := 4) O 0 dX3_allGoodIn_4 rfl rfl ?_
  refine E_getR (pc := 5) O FL_RailSequence_10 dX3_allGoodIn_5 hf (fun v12 hf => ?_)
  refine E_callV_v (pc := 8) (S := []) O [.ref v12] CV_RailSequence_164 rfl (fun r e => t_X1_copyFrom e) dX3_allGoodIn_8 hf rfl ⟨(Nat.le_of_ble_eq_true rfl), (Nat.le_of_ble_eq_true rfl)⟩ ⟨(Nat.le_of_ble_eq_true rfl), (Nat.le_of_ble_eq_true rfl)⟩ (Nat.le_of_ble_eq_true rfl) (fun h13 hf => ?_)
  refine E_iconst (pc := 11) O (0 : Int32) dX3_allGoodIn_11 (by decide) ?_
  refine E_istore_n (pc := 12) O 1 [some (.ref x0), some (.int (0 : Int32)), none] dX3_allGoodIn_12 rfl (by decide) rfl rfl ?_
  exact t_f_X3_allGoodIn_13 O Z FU h13 x0 (0 : Int32) hf
set_option maxHeartbeats 4000000 in
set_option maxRecDepth 100000 in
theorem t_b_X3_allOffIn_21 {K : Cx} {fr : Bool} {out : (Int32 × MH)} (O : Ok K yX3_allOffIn.cls cX3_allOffIn 2 (rmm 5 129 0 0)) (Z : Out K (some .int) fr (some (.int out.1)) out.2) (rec21 : MH → Nat → Int32 → Option (Int32 × MH)) (hr21 : ∀ (h : MH) (x0 : Nat) (x1 : Int32), rec21 h x0 x1 = some out → EE K (fr, 0, 0) 21 [some (.ref x0), some (.int x1)] [] h) (h : MH) (x0 : Nat) (x1 : Int32) (hf : b_X3_allOffIn_21 rec21 h x0 x1 = some out) : EE K (fr, 0, 0) 21 [some (.ref x0), some (.int x1)] [] h := by
  unfold b_X3_allOffIn_21 at hf
  refine E_iload_n (pc := 21) O 1 dX3_allOffIn_21 rfl rfl ?_
  refine E_sipush (pc := 22) O (1000 : Int32) dX3_allOffIn_22 (by decide) ?_
  refine E_icmp_gt (pc := 25) O 54 dX3_allOffIn_25 (by decide) hf (fun hf => ?_) (fun hf => ?_)
  · refine E_iconst (pc := 54) O (-1 : Int32) dX3_allOffIn_54 (by decide) ?_
    exact E_iret (pc := 55) O Z hf ⟨(Nat.le_of_ble_eq_true rfl), (Nat.le_of_ble_eq_true rfl)⟩ dX3_allOffIn_55
  · refine E_aload_n (pc := 28) O 0 dX3_allOffIn_28 rfl rfl ?_
    refine E_getR (pc := 29) O FL_RailSequence_16 dX3_allOffIn_29 hf (fun v1 hf => ?_)
    refine E_callV_iP (pc := 32) (S := []) O [] CV_RailSequence_214 rfl (fun r e => t_X1_isAllOff e) dX3_allOffIn_32 hf rfl ⟨(Nat.le_of_ble_eq_true rfl), (Nat.le_of_ble_eq_true rfl)⟩ ⟨(Nat.le_of_ble_eq_true rfl), (Nat.le_of_ble_eq_true rfl)⟩ (Nat.le_of_ble_eq_true rfl) (fun v2 hf => ?_)
    refine E_if_eq (pc := 35) O 40 dX3_allOffIn_35 (by decide) hf (fun hf => ?_) (fun hf => ?_)
    · refine E_aload_n (pc := 40) O 0 dX3_allOffIn_40 rfl rfl ?_
      refine E_getR (pc := 41) O FL_RailSequence_16 dX3_allOffIn_41 hf (fun v3 hf => ?_)
      refine E_callV_i (pc := 44) (S := []) O [] CV_RailSequence_139 rfl (fun r e => t_X1_passTick e) dX3_allOffIn_44 hf rfl ⟨(Nat.le_of_ble_eq_true rfl), (Nat.le_of_ble_eq_true rfl)⟩ ⟨(Nat.le_of_ble_eq_true rfl), (Nat.le_of_ble_eq_true rfl)⟩ (Nat.le_of_ble_eq_true rfl) (fun p4 hf => ?_)
      refine E_pop (pc := 47) O dX3_allOffIn_47 rfl ?_
      refine E_iinc (pc := 48) O (1 : Int32) [some (.ref x0), some (.int (x1 + (1 : Int32)))] dX3_allOffIn_48 rfl (by decide) rfl (by decide) rfl ?_
      refine E_goto (pc := 51) O 21 dX3_allOffIn_51 (by decide) ?_
      exact hr21 p4.2 x0 (x1 + (1 : Int32)) hf
    · refine E_iload_n (pc := 38) O 1 dX3_allOffIn_38 rfl rfl ?_
      exact E_iret (pc := 39) O Z hf ⟨(Nat.le_of_ble_eq_true rfl), (Nat.le_of_ble_eq_true rfl)⟩ dX3_allOffIn_39
theorem t_f_X3_allOffIn_21 {K : Cx} {fr : Bool} {out : (Int32 × MH)} (O : Ok K yX3_allOffIn.cls cX3_allOffIn 2 (rmm 5 129 0 0)) (Z : Out K (some .int) fr (some (.int out.1)) out.2) : ∀ (n : Nat) (h : MH) (x0 : Nat) (x1 : Int32), f_X3_allOffIn_21 n h x0 x1 = some out → EE K (fr, 0, 0) 21 [some (.ref x0), some (.int x1)] [] h := by
  intro n
  induction n with
  | zero => intro h x0 x1 hf; cases hf
  | succ n ih => intro h x0 x1 hf; exact t_b_X3_allOffIn_21 O Z _ ih h x0 x1 hf
set_option maxHeartbeats 4000000 in
set_option maxRecDepth 100000 in
theorem t_X3_allOffIn {g : Gx} {fr : Bool} {h : MH} {x0} {out : (Int32 × MH)} (hf : f_X3_allOffIn h x0 = some out) : MM g yX3_allOffIn cX3_allOffIn 2 (some .int) 5 129 0 0 fr fr [.ref x0] h (some (.int out.1)) out.2 := by
  unfold f_X3_allOffIn at hf
  refine MM_of (L := [some (.ref x0), none]) (by decide) (Nat.le_of_ble_eq_true rfl) rfl (fun K hK O Z hn => ?_)
  refine E_aload_n (pc := 0) O 0 dX3_allOffIn_0 rfl rfl ?_
  refine E_getR (pc := 1) O FL_RailSequence_16 dX3_allOffIn_1 hf (fun v5 hf => ?_)
  refine E_aload_n (pc := 4) O 0 dX3_allOffIn_4 rfl rfl ?_
  refine E_getR (pc := 5) O FL_RailSequence_10 dX3_allOffIn_5 hf (fun v6 hf => ?_)
  refine E_callV_v (pc := 8) (S := []) O [.ref v6] CV_RailSequence_164 rfl (fun r e => t_X1_copyFrom e) dX3_allOffIn_8 hf rfl ⟨(Nat.le_of_ble_eq_true rfl), (Nat.le_of_ble_eq_true rfl)⟩ ⟨(Nat.le_of_ble_eq_true rfl), (Nat.le_of_ble_eq_true rfl)⟩ (Nat.le_of_ble_eq_true rfl) (fun h7 hf => ?_)
  refine E_aload_n (pc := 11) O 0 dX3_allOffIn_11 rfl rfl ?_
  refine E_getR (pc := 12) O FL_RailSequence_16 dX3_allOffIn_12 hf (fun v8 hf => ?_)
  refine E_iconst (pc := 15) O (0 : Int32) dX3_allOffIn_15 (by decide) ?_
  refine E_put (pc := 16) O FN_RailSequence_106 rfl rfl dX3_allOffIn_16 hf (fun h9 hf => ?_)
  refine E_iconst (pc := 19) O (0 : Int32) dX3_allOffIn_19 (by decide) ?_
  refine E_istore_n (pc := 20) O 1 [some (.ref x0), some (.int (0 : Int32))] dX3_allOffIn_20 rfl (by decide) rfl rfl ?_
  exact t_f_X3_allOffIn_21 O Z FU h9 x0 (0 : Int32) hf
set_option maxHeartbeats 4000000 in
set_option maxRecDepth 100000 in
theorem t_b_X3_ifShort_39 {K : Cx} {fr : Bool} {out : (Int32 × MH)} (O : Ok K yX3_ifShort.cls cX3_ifShort 6 (rmm 5 129 0 0)) (Z : Out K (some .int) fr (some (.int out.1)) out.2) (h : MH) (hf : b_X3_ifShort_39 h = some out) : EE K (fr, 0, 0) 39 [none, none, none, none, none, none] [] h := by
  unfold b_X3_ifShort_39 at hf
  cases hf
set_option maxHeartbeats 4000000 in
set_option maxRecDepth 100000 in
theorem t_b_X3_ifShort_130 {K : Cx} {fr : Bool} {out : (Int32 × MH)} (O : Ok K yX3_ifShort.cls cX3_ifShort 6 (rmm 5 129 0 0)) (Z : Out K (some .int) fr (some (.int out.1)) out.2) (h : MH) (s0 : Nat) (s1 : Int32) (hf : b_X3_ifShort_130 h s0 s1 = some out) : EE K (fr, 0, 0) 130 [none, none, none, none, none, none] [.int s1, .ref s0] h := by
  unfold b_X3_ifShort_130 at hf
  refine E_callV_iP (pc := 130) (S := []) O [.int s1] CV_RailSequence_205 rfl (fun r e => t_X1_maskOf e) dX3_ifShort_130 hf rfl ⟨(Nat.le_of_ble_eq_true rfl), (Nat.le_of_ble_eq_true rfl)⟩ ⟨(Nat.le_of_ble_eq_true rfl), (Nat.le_of_ble_eq_true rfl)⟩ (Nat.le_of_ble_eq_true rfl) (fun v1 hf => ?_)
  exact E_iret (pc := 133) O Z hf ⟨(Nat.le_of_ble_eq_true rfl), (Nat.le_of_ble_eq_true rfl)⟩ dX3_ifShort_133
set_option maxHeartbeats 4000000 in
set_option maxRecDepth 100000 in
theorem t_b_X3_ifShort_76 {K : Cx} {fr : Bool} {out : (Int32 × MH)} (O : Ok K yX3_ifShort.cls cX3_ifShort 6 (rmm 5 129 0 0)) (Z : Out K (some .int) fr (some (.int out.1)) out.2) (rec76 : MH → Nat → Int32 → Int32 → Int32 → Option (Int32 × MH)) (hr76 : ∀ (h : MH) (x0 : Nat) (x3 : Int32) (x4 : Int32) (x5 : Int32), rec76 h x0 x3 x4 x5 = some out → EE K (fr, 0, 0) 76 [some (.ref x0), none, none, some (.int x3), some (.int x4), some (.int x5)] [] h) (h : MH) (x0 : Nat) (x3 : Int32) (x4 : Int32) (x5 : Int32) (hf : b_X3_ifShort_76 rec76 h x0 x3 x4 x5 = some out) : EE K (fr, 0, 0) 76 [some (.ref x0), none, none, some (.int x3), some (.int x4), some (.int x5)] [] h := by
  unfold b_X3_ifShort_76 at hf
  refine E_iload (pc := 76) O dX3_ifShort_76 rfl ?_
  refine E_bipush (pc := 78) O (100 : Int32) dX3_ifShort_78 (by decide) ?_
  refine E_icmp_ge (pc := 80) O 109 dX3_ifShort_80 (by decide) hf (fun hf => ?_) (fun hf => ?_)
  · refine E_iload_n (pc := 109) O 3 dX3_ifShort_109 rfl rfl ?_
    refine E_if_ne (pc := 110) O 116 dX3_ifShort_110 (by decide) hf (fun hf => ?_) (fun hf => ?_)
    · refine E_aload_n (pc := 116) O 0 dX3_ifShort_116 rfl rfl ?_
      refine E_getR (pc := 117) O FL_RailSequence_16 dX3_ifShort_117 hf (fun v2 hf => ?_)
      refine E_iload_n (pc := 120) O 3 dX3_ifShort_120 rfl rfl ?_
      refine E_iconst (pc := 121) O (1 : Int32) dX3_ifShort_121 (by decide) ?_
      refine E_icmp_ne (pc := 122) O 129 dX3_ifShort_122 (by decide) hf (fun hf => ?_) (fun hf => ?_)
      · refine E_iconst (pc := 129) O (5 : Int32) dX3_ifShort_129 (by decide) ?_
        exact E_sub (L' := [none, none, none, none, none, none]) True.intro (t_b_X3_ifShort_130 O Z h v2 (5 : Int32) hf)
      · refine E_iconst (pc := 125) O (3 : Int32) dX3_ifShort_125 (by decide) ?_
        refine E_goto (pc := 126) O 130 dX3_ifShort_126 (by decide) ?_
        exact E_sub (L' := [none, none, none, none, none, none]) True.intro (t_b_X3_ifShort_130 O Z h v2 (3 : Int32) hf)
    · refine E_iload (pc := 113) O dX3_ifShort_113 rfl ?_
      exact E_iret (pc := 115) O Z hf ⟨(Nat.le_of_ble_eq_true rfl), (Nat.le_of_ble_eq_true rfl)⟩ dX3_ifShort_115
  · refine E_aload_n (pc := 83) O 0 dX3_ifShort_83 rfl rfl ?_
    refine E_getR (pc := 84) O FL_RailSequence_16 dX3_ifShort_84 hf (fun v3 hf => ?_)
    refine E_callV_i (pc := 87) (S := []) O [] CV_RailSequence_139 rfl (fun r e => t_X1_passTick e) dX3_ifShort_87 hf rfl ⟨(Nat.le_of_ble_eq_true rfl), (Nat.le_of_ble_eq_true rfl)⟩ ⟨(Nat.le_of_ble_eq_true rfl), (Nat.le_of_ble_eq_true rfl)⟩ (Nat.le_of_ble_eq_true rfl) (fun p4 hf => ?_)
    refine E_pop (pc := 90) O dX3_ifShort_90 rfl ?_
    refine E_iload (pc := 91) O dX3_ifShort_91 rfl ?_
    refine E_aload_n (pc := 93) O 0 dX3_ifShort_93 rfl rfl ?_
    refine E_getR (pc := 94) O FL_RailSequence_16 dX3_ifShort_94 hf (fun v5 hf => ?_)
    refine E_callV_iP (pc := 97) (S := [.int x4]) O [] CV_RailSequence_219 rfl (fun r e => t_X1_justDropped e) dX3_ifShort_97 hf rfl ⟨(Nat.le_of_ble_eq_true rfl), (Nat.le_of_ble_eq_true rfl)⟩ ⟨(Nat.le_of_ble_eq_true rfl), (Nat.le_of_ble_eq_true rfl)⟩ (Nat.le_of_ble_eq_true rfl) (fun v6 hf => ?_)
    refine E_ior (pc := 100) O dX3_ifShort_100 ?_
    obtain ⟨v7, ev7, hf⟩ := ob hf
    have ev7 := os ev7
    rw [ev7]
    refine E_istore (pc := 101) O [some (.ref x0), none, none, some (.int x3), some (.int v7), some (.int x5)] dX3_ifShort_101 (by decide) rfl rfl ?_
    refine E_iinc (pc := 103) O (1 : Int32) [some (.ref x0), none, none, some (.int x3), some (.int v7), some (.int (x5 + (1 : Int32)))] dX3_ifShort_103 rfl (by decide) rfl (by decide) rfl ?_
    refine E_goto (pc := 106) O 76 dX3_ifShort_106 (by decide) ?_
    exact hr76 p4.2 x0 x3 v7 (x5 + (1 : Int32)) hf
theorem t_f_X3_ifShort_76 {K : Cx} {fr : Bool} {out : (Int32 × MH)} (O : Ok K yX3_ifShort.cls cX3_ifShort 6 (rmm 5 129 0 0)) (Z : Out K (some .int) fr (some (.int out.1)) out.2) : ∀ (n : Nat) (h : MH) (x0 : Nat) (x3 : Int32) (x4 : Int32) (x5 : Int32), f_X3_ifShort_76 n h x0 x3 x4 x5 = some out → EE K (fr, 0, 0) 76 [some (.ref x0), none, none, some (.int x3), some (.int x4), some (.int x5)] [] h := by
  intro n
  induction n with
  | zero => intro h x0 x3 x4 x5 hf; cases hf
  | succ n ih => intro h x0 x3 x4 x5 hf; exact t_b_X3_ifShort_76 O Z _ ih h x0 x3 x4 x5 hf
set_option maxHeartbeats 4000000 in
set_option maxRecDepth 100000 in
theorem t_X3_ifShort {g : Gx} {fr : Bool} {h : MH} {x0 x1 x2 x3} {out : (Int32 × MH)} (hf : f_X3_ifShort h x0 x1 x2 x3 = some out) : MM g yX3_ifShort cX3_ifShort 6 (some .int) 5 129 0 0 fr fr [.ref x0, .int x1, .int x2, .int x3] h (some (.int out.1)) out.2 := by
  unfold f_X3_ifShort at hf
  refine MM_of (L := [some (.ref x0), some (.int x1), some (.int x2), some (.int x3), none, none]) (by decide) (Nat.le_of_ble_eq_true rfl) rfl (fun K hK O Z hn => ?_)
  refine E_aload_n (pc := 0) O 0 dX3_ifShort_0 rfl rfl ?_
  refine E_iload_n (pc := 1) O 1 dX3_ifShort_1 rfl rfl ?_
  refine E_callV_iP (pc := 2) (S := []) O [.int x1] CV_RailSequence_67 rfl (fun r e => t_X3_isRail e) dX3_ifShort_2 hf rfl ⟨(Nat.le_of_ble_eq_true rfl), (Nat.le_of_ble_eq_true rfl)⟩ ⟨(Nat.le_of_ble_eq_true rfl), (Nat.le_of_ble_eq_true rfl)⟩ (Nat.le_of_ble_eq_true rfl) (fun v8 hf => ?_)
  refine E_if_ne (pc := 5) O 18 dX3_ifShort_5 (by decide) hf (fun hf => ?_) (fun hf => ?_)
  · refine E_iload_n (pc := 18) O 2 dX3_ifShort_18 rfl rfl ?_
    refine E_iconst (pc := 19) O (1 : Int32) dX3_ifShort_19 (by decide) ?_
    refine E_icmp_lt (pc := 20) O 39 dX3_ifShort_20 (by decide) hf (fun hf => ?_) (fun hf => ?_)
    · exact E_sub (L' := [none, none, none, none, none, none]) True.intro (t_b_X3_ifShort_39 O Z h hf)
    · refine E_iload_n (pc := 23) O 2 dX3_ifShort_23 rfl rfl ?_
      refine E_sipush (pc := 24) O (500 : Int32) dX3_ifShort_24 (by decide) ?_
      refine E_icmp_gt (pc := 27) O 39 dX3_ifShort_27 (by decide) hf (fun hf => ?_) (fun hf => ?_)
      · exact E_sub (L' := [none, none, none, none, none, none]) True.intro (t_b_X3_ifShort_39 O Z h hf)
      · refine E_iload_n (pc := 30) O 3 dX3_ifShort_30 rfl rfl ?_
        refine E_if_lt (pc := 31) O 39 dX3_ifShort_31 (by decide) hf (fun hf => ?_) (fun hf => ?_)
        · exact E_sub (L' := [none, none, none, none, none, none]) True.intro (t_b_X3_ifShort_39 O Z h hf)
        · refine E_iload_n (pc := 34) O 3 dX3_ifShort_34 rfl rfl ?_
          refine E_iconst (pc := 35) O (2 : Int32) dX3_ifShort_35 (by decide) ?_
          refine E_icmp_le (pc := 36) O 49 dX3_ifShort_36 (by decide) hf (fun hf => ?_) (fun hf => ?_)
          · refine E_aload_n (pc := 49) O 0 dX3_ifShort_49 rfl rfl ?_
            refine E_getR (pc := 50) O FL_RailSequence_16 dX3_ifShort_50 hf (fun v9 hf => ?_)
            refine E_aload_n (pc := 53) O 0 dX3_ifShort_53 rfl rfl ?_
            refine E_getR (pc := 54) O FL_RailSequence_10 dX3_ifShort_54 hf (fun v10 hf => ?_)
            refine E_callV_v (pc := 57) (S := []) O [.ref v10] CV_RailSequence_164 rfl (fun r e => t_X1_copyFrom e) dX3_ifShort_57 hf rfl ⟨(Nat.le_of_ble_eq_true rfl), (Nat.le_of_ble_eq_true rfl)⟩ ⟨(Nat.le_of_ble_eq_true rfl), (Nat.le_of_ble_eq_true rfl)⟩ (Nat.le_of_ble_eq_true rfl) (fun h11 hf => ?_)
            refine E_aload_n (pc := 60) O 0 dX3_ifShort_60 rfl rfl ?_
            refine E_getR (pc := 61) O FL_RailSequence_16 dX3_ifShort_61 hf (fun v12 hf => ?_)
            refine E_getR (pc := 64) O FL_RailSequence_126 dX3_ifShort_64 hf (fun v13 hf => ?_)
            refine E_iload_n (pc := 67) O 1 dX3_ifShort_67 rfl rfl ?_
            refine E_iload_n (pc := 68) O 2 dX3_ifShort_68 rfl rfl ?_
            refine E_iastore (pc := 69) O dX3_ifShort_69 hf (fun h14 hf => ?_)
            refine E_iconst (pc := 70) O (0 : Int32) dX3_ifShort_70 (by decide) ?_
            refine E_istore (pc := 71) O [some (.ref x0), some (.int x1), some (.int x2), some (.int x3), some (.int (0 : Int32)), none] dX3_ifShort_71 (by decide) rfl rfl ?_
            refine E_iconst (pc := 73) O (0 : Int32) dX3_ifShort_73 (by decide) ?_
            refine E_istore (pc := 74) O [some (.ref x0), some (.int x1), some (.int x2), some (.int x3), some (.int (0 : Int32)), some (.int (0 : Int32))] dX3_ifShort_74 (by decide) rfl rfl ?_
            exact E_sub (L' := [some (.ref x0), none, none, some (.int x3), some (.int (0 : Int32)), some (.int (0 : Int32))]) (And.intro rfl (And.intro rfl (And.intro rfl (And.intro rfl True.intro)))) (t_f_X3_ifShort_76 O Z FU h14 x0 x3 (0 : Int32) (0 : Int32) hf)
          · exact E_sub (L' := [none, none, none, none, none, none]) True.intro (t_b_X3_ifShort_39 O Z h hf)
  · cases hf
set_option maxHeartbeats 4000000 in
set_option maxRecDepth 100000 in
theorem t_X3_leastPatience {g : Gx} {fr : Bool} {h : MH} {x0 x1} {out : (Int32 × MH)} (hf : f_X3_leastPatience h x0 x1 = some out) : MM g yX3_leastPatience cX3_leastPatience 2 (some .int) 2 46 0 0 fr fr [.ref x0, .int x1] h (some (.int out.1)) out.2 := by
  unfold f_X3_leastPatience at hf
  refine MM_of (L := [some (.ref x0), some (.int x1)]) (by decide) (Nat.le_of_ble_eq_true rfl) rfl (fun K hK O Z hn => ?_)
  refine E_aload_n (pc := 0) O 0 dX3_leastPatience_0 rfl rfl ?_
  refine E_iload_n (pc := 1) O 1 dX3_leastPatience_1 rfl rfl ?_
  refine E_callV_iP (pc := 2) (S := []) O [.int x1] CV_RailSequence_67 rfl (fun r e => t_X3_isRail e) dX3_leastPatience_2 hf rfl ⟨(Nat.le_of_ble_eq_true rfl), (Nat.le_of_ble_eq_true rfl)⟩ ⟨(Nat.le_of_ble_eq_true rfl), (Nat.le_of_ble_eq_true rfl)⟩ (Nat.le_of_ble_eq_true rfl) (fun v1 hf => ?_)
  refine E_if_ne (pc := 5) O 18 dX3_leastPatience_5 (by decide) hf (fun hf => ?_) (fun hf => ?_)
  · refine E_aload_n (pc := 18) O 0 dX3_leastPatience_18 rfl rfl ?_
    refine E_getR (pc := 19) O FL_RailSequence_10 dX3_leastPatience_19 hf (fun v2 hf => ?_)
    refine E_iload_n (pc := 22) O 1 dX3_leastPatience_22 rfl rfl ?_
    refine E_callV_iP (pc := 23) (S := []) O [.int x1] CV_RailSequence_222 rfl (fun r e => t_X1_leastPatienceOf e) dX3_leastPatience_23 hf rfl ⟨(Nat.le_of_ble_eq_true rfl), (Nat.le_of_ble_eq_true rfl)⟩ ⟨(Nat.le_of_ble_eq_true rfl), (Nat.le_of_ble_eq_true rfl)⟩ (Nat.le_of_ble_eq_true rfl) (fun v3 hf => ?_)
    exact E_iret (pc := 26) O Z hf ⟨(Nat.le_of_ble_eq_true rfl), (Nat.le_of_ble_eq_true rfl)⟩ dX3_leastPatience_26
  · cases hf
set_option maxHeartbeats 4000000 in
set_option maxRecDepth 100000 in
theorem t_b_X3_goodShare_26 {K : Cx} {fr : Bool} {out : UInt64} {h : MH} (O : Ok K yX3_goodShare.cls cX3_goodShare 4 (rmm 0 0 0 0)) (Z : Out K (some .double) fr (some (.double out)) h) (rec26 : Nat → Int32 → Int32 → Int32 → Option UInt64) (hr26 : ∀ (x0 : Nat) (x1 : Int32) (x2 : Int32) (x3 : Int32), rec26 x0 x1 x2 x3 = some out → EE K (fr, 0, 0) 26 [some (.ref x0), some (.int x1), some (.int x2), some (.int x3)] [] h) (x0 : Nat) (x1 : Int32) (x2 : Int32) (x3 : Int32) (hf : b_X3_goodShare_26 h rec26 x0 x1 x2 x3 = some out) : EE K (fr, 0, 0) 26 [some (.ref x0), some (.int x1), some (.int x2), some (.int x3)] [] h := by
  unfold b_X3_goodShare_26 at hf
  refine E_iload_n (pc := 26) O 3 dX3_goodShare_26 rfl rfl ?_
  refine E_aload_n (pc := 27) O 0 dX3_goodShare_27 rfl rfl ?_
  refine E_getR (pc := 28) O FL_RailSequence_10 dX3_goodShare_28 hf (fun v1 hf => ?_)
  refine E_getI (pc := 31) O FL_RailSequence_51 dX3_goodShare_31 hf (fun v2 hf => ?_)
  refine E_icmp_ge (pc := 34) O 59 dX3_goodShare_34 (by decide) hf (fun hf => ?_) (fun hf => ?_)
  · refine E_iload_n (pc := 59) O 2 dX3_goodShare_59 rfl rfl ?_
    refine E_i2d (pc := 60) O dX3_goodShare_60 ?_
    refine E_iload_n (pc := 61) O 1 dX3_goodShare_61 rfl rfl ?_
    refine E_i2d (pc := 62) O dX3_goodShare_62 ?_
    refine E_ddiv (pc := 63) O dX3_goodShare_63 hf (fun v3 hf => ?_)
    exact E_dretP (pc := 64) O Z hf ⟨(Nat.le_of_ble_eq_true rfl), (Nat.le_of_ble_eq_true rfl)⟩ dX3_goodShare_64
  · refine E_iload_n (pc := 37) O 2 dX3_goodShare_37 rfl rfl ?_
    refine E_aload_n (pc := 38) O 0 dX3_goodShare_38 rfl rfl ?_
    refine E_getR (pc := 39) O FL_RailSequence_10 dX3_goodShare_39 hf (fun v4 hf => ?_)
    refine E_getR (pc := 42) O FL_RailSequence_180 dX3_goodShare_42 hf (fun v5 hf => ?_)
    refine E_iload_n (pc := 45) O 3 dX3_goodShare_45 rfl rfl ?_
    refine E_iconst (pc := 46) O (4 : Int32) dX3_goodShare_46 (by decide) ?_
    refine E_imul (pc := 47) O dX3_goodShare_47 ?_
    refine E_iconst (pc := 48) O (3 : Int32) dX3_goodShare_48 (by decide) ?_
    refine E_iadd (pc := 49) O dX3_goodShare_49 ?_
    refine E_iaload (pc := 50) O dX3_goodShare_50 hf (fun v6 hf => ?_)
    refine E_iadd (pc := 51) O dX3_goodShare_51 ?_
    obtain ⟨v7, ev7, hf⟩ := ob hf
    have ev7 := os ev7
    rw [ev7]
    refine E_istore_n (pc := 52) O 2 [some (.ref x0), some (.int x1), some (.int v7), some (.int x3)] dX3_goodShare_52 rfl (by decide) rfl rfl ?_
    refine E_iinc (pc := 53) O (1 : Int32) [some (.ref x0), some (.int x1), some (.int v7), some (.int (x3 + (1 : Int32)))] dX3_goodShare_53 rfl (by decide) rfl (by decide) rfl ?_
    refine E_goto (pc := 56) O 26 dX3_goodShare_56 (by decide) ?_
    exact hr26 x0 x1 v7 (x3 + (1 : Int32)) hf
theorem t_f_X3_goodShare_26 {K : Cx} {fr : Bool} {out : UInt64} {h : MH} (O : Ok K yX3_goodShare.cls cX3_goodShare 4 (rmm 0 0 0 0)) (Z : Out K (some .double) fr (some (.double out)) h) : ∀ (n : Nat) (x0 : Nat) (x1 : Int32) (x2 : Int32) (x3 : Int32), f_X3_goodShare_26 h n x0 x1 x2 x3 = some out → EE K (fr, 0, 0) 26 [some (.ref x0), some (.int x1), some (.int x2), some (.int x3)] [] h := by
  intro n
  induction n with
  | zero => intro x0 x1 x2 x3 hf; cases hf
  | succ n ih => intro x0 x1 x2 x3 hf; exact t_b_X3_goodShare_26 O Z _ ih x0 x1 x2 x3 hf
set_option maxHeartbeats 4000000 in
set_option maxRecDepth 100000 in
theorem t_X3_goodShare {g : Gx} {fr : Bool} {h : MH} {x0} {out : UInt64} (hf : f_X3_goodShare h x0 = some out) : MM g yX3_goodShare cX3_goodShare 4 (some .double) 0 0 0 0 fr fr [.ref x0] h (some (.double out)) h := by
  unfold f_X3_goodShare at hf
  refine MM_of (L := [some (.ref x0), none, none, none]) (by decide) (Nat.le_of_ble_eq_true rfl) rfl (fun K hK O Z hn => ?_)
  refine E_aload_n (pc := 0) O 0 dX3_goodShare_0 rfl rfl ?_
  refine E_getR (pc := 1) O FL_RailSequence_10 dX3_goodShare_1 hf (fun v8 hf => ?_)
  refine E_getI (pc := 4) O FL_RailSequence_134 dX3_goodShare_4 hf (fun v9 hf => ?_)
  refine E_aload_n (pc := 7) O 0 dX3_goodShare_7 rfl rfl ?_
  refine E_getR (pc := 8) O FL_RailSequence_10 dX3_goodShare_8 hf (fun v10 hf => ?_)
  refine E_getI (pc := 11) O FL_RailSequence_51 dX3_goodShare_11 hf (fun v11 hf => ?_)
  refine E_imul (pc := 14) O dX3_goodShare_14 ?_
  obtain ⟨v12, ev12, hf⟩ := ob hf
  have ev12 := os ev12
  rw [ev12]
  refine E_istore_n (pc := 15) O 1 [some (.ref x0), some (.int v12), none, none] dX3_goodShare_15 rfl (by decide) rfl rfl ?_
  refine E_iload_n (pc := 16) O 1 dX3_goodShare_16 rfl rfl ?_
  refine E_if_ne (pc := 17) O 22 dX3_goodShare_17 (by decide) hf (fun hf => ?_) (fun hf => ?_)
  · refine E_iconst (pc := 22) O (0 : Int32) dX3_goodShare_22 (by decide) ?_
    refine E_istore_n (pc := 23) O 2 [some (.ref x0), some (.int v12), some (.int (0 : Int32)), none] dX3_goodShare_23 rfl (by decide) rfl rfl ?_
    refine E_iconst (pc := 24) O (0 : Int32) dX3_goodShare_24 (by decide) ?_
    refine E_istore_n (pc := 25) O 3 [some (.ref x0), some (.int v12), some (.int (0 : Int32)), some (.int (0 : Int32))] dX3_goodShare_25 rfl (by decide) rfl rfl ?_
    exact t_f_X3_goodShare_26 O Z FU x0 v12 (0 : Int32) (0 : Int32) hf
  · refine E_dconst0 (pc := 20) O dX3_goodShare_20 ?_
    exact E_dretP (pc := 21) O Z hf ⟨(Nat.le_of_ble_eq_true rfl), (Nat.le_of_ble_eq_true rfl)⟩ dX3_goodShare_21
