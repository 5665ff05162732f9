/-! walks: the machine does what the plain functions say: written by program -/
set_option maxHeartbeats 4000000 in
set_option maxRecDepth 100000 in
theorem t_b_L_ahead_585 {K : Cx} {out : (Int32 × MH)} (O : Ok K yL_ahead.cls cL_ahead 14 (rmm 7 171 4 148)) (Z : Out K (some .boolean) true (some (.int out.1)) out.2) (rec27 : MH → Nat → Int32 → Int32 → Nat → Nat → Nat → Nat → Nat → Nat → Nat → Int32 → Option (Int32 × MH)) (hr27 : ∀ (h : MH) (x0 : Nat) (x1 : Int32) (x2 : Int32) (x3 : Nat) (x4 : Nat) (x5 : Nat) (x6 : Nat) (x7 : Nat) (x8 : Nat) (x9 : Nat) (x10 : Int32), rec27 h x0 x1 x2 x3 x4 x5 x6 x7 x8 x9 x10 = some out → EE K (true, 4, 148) 27 [some (.ref x0), some (.int x1), some (.int x2), some (.ref x3), some (.ref x4), some (.ref x5), some (.ref x6), some (.ref x7), some (.ref x8), some (.ref x9), some (.int x10), none, none, none] [] h) (h : MH) (x0 : Nat) (x1 : Int32) (x2 : Int32) (x3 : Nat) (x4 : Nat) (x5 : Nat) (x6 : Nat) (x7 : Nat) (x8 : Nat) (x9 : Nat) (x10 : Int32) (hf : b_L_ahead_585 rec27 h x0 x1 x2 x3 x4 x5 x6 x7 x8 x9 x10 = some out) : EE K (true, 4, 148) 585 [some (.ref x0), some (.int x1), some (.int x2), some (.ref x3), some (.ref x4), some (.ref x5), some (.ref x6), some (.ref x7), some (.ref x8), some (.ref x9), some (.int x10), none, none, none] [] h := by
  unfold b_L_ahead_585 at hf
  refine E_iinc (pc := 585) O (1 : Int32) [some (.ref x0), some (.int x1), some (.int x2), some (.ref x3), some (.ref x4), some (.ref x5), some (.ref x6), some (.ref x7), some (.ref x8), some (.ref x9), some (.int (x10 + (1 : Int32))), none, none, none] dL_ahead_585 rfl (by decide) rfl (by decide) rfl ?_
  refine E_goto (pc := 588) O 27 dL_ahead_588 (by decide) ?_
  exact hr27 h x0 x1 x2 x3 x4 x5 x6 x7 x8 x9 (x10 + (1 : Int32)) hf
set_option maxHeartbeats 4000000 in
set_option maxRecDepth 100000 in
theorem t_b_L_ahead_580 {K : Cx} {out : (Int32 × MH)} (O : Ok K yL_ahead.cls cL_ahead 14 (rmm 7 171 4 148)) (Z : Out K (some .boolean) true (some (.int out.1)) out.2) (rec27 : MH → Nat → Int32 → Int32 → Nat → Nat → Nat → Nat → Nat → Nat → Nat → Int32 → Option (Int32 × MH)) (hr27 : ∀ (h : MH) (x0 : Nat) (x1 : Int32) (x2 : Int32) (x3 : Nat) (x4 : Nat) (x5 : Nat) (x6 : Nat) (x7 : Nat) (x8 : Nat) (x9 : Nat) (x10 : Int32), rec27 h x0 x1 x2 x3 x4 x5 x6 x7 x8 x9 x10 = some out → EE K (true, 4, 148) 27 [some (.ref x0), some (.int x1), some (.int x2), some (.ref x3), some (.ref x4), some (.ref x5), some (.ref x6), some (.ref x7), some (.ref x8), some (.ref x9), some (.int x10), none, none, none] [] h) (h : MH) (x0 : Nat) (x1 : Int32) (x2 : Int32) (x3 : Nat) (x4 : Nat) (x5 : Nat) (x6 : Nat) (x7 : Nat) (x8 : Nat) (x9 : Nat) (x10 : Int32) (s0 : Int32) (s1 : Int32) (hf : b_L_ahead_580 rec27 h x0 x1 x2 x3 x4 x5 x6 x7 x8 x9 x10 s0 s1 = some out) : EE K (true, 4, 148) 580 [some (.ref x0), some (.int x1), some (.int x2), some (.ref x3), some (.ref x4), some (.ref x5), some (.ref x6), some (.ref x7), some (.ref x8), some (.ref x9), some (.int x10), none, none, none] [.int s1, .int s0] h := by
  unfold b_L_ahead_580 at hf
  refine E_icmp_eq (pc := 580) O 585 dL_ahead_580 (by decide) hf (fun hf => ?_) (fun hf => ?_)
  · exact t_b_L_ahead_585 O Z _ hr27 h x0 x1 x2 x3 x4 x5 x6 x7 x8 x9 x10 hf
  · refine E_iconst (pc := 583) O (0 : Int32) dL_ahead_583 (by decide) ?_
    exact E_zret (pc := 584) O Z hf ⟨(Nat.le_of_ble_eq_true rfl), (Nat.le_of_ble_eq_true rfl)⟩ dL_ahead_584
set_option maxHeartbeats 4000000 in
set_option maxRecDepth 100000 in
theorem t_b_L_ahead_569 {K : Cx} {out : (Int32 × MH)} (O : Ok K yL_ahead.cls cL_ahead 14 (rmm 7 171 4 148)) (Z : Out K (some .boolean) true (some (.int out.1)) out.2) (rec27 : MH → Nat → Int32 → Int32 → Nat → Nat → Nat → Nat → Nat → Nat → Nat → Int32 → Option (Int32 × MH)) (hr27 : ∀ (h : MH) (x0 : Nat) (x1 : Int32) (x2 : Int32) (x3 : Nat) (x4 : Nat) (x5 : Nat) (x6 : Nat) (x7 : Nat) (x8 : Nat) (x9 : Nat) (x10 : Int32), rec27 h x0 x1 x2 x3 x4 x5 x6 x7 x8 x9 x10 = some out → EE K (true, 4, 148) 27 [some (.ref x0), some (.int x1), some (.int x2), some (.ref x3), some (.ref x4), some (.ref x5), some (.ref x6), some (.ref x7), some (.ref x8), some (.ref x9), some (.int x10), none, none, none] [] h) (h : MH) (x0 : Nat) (x1 : Int32) (x2 : Int32) (x3 : Nat) (x4 : Nat) (x5 : Nat) (x6 : Nat) (x7 : Nat) (x8 : Nat) (x9 : Nat) (x10 : Int32) (x11 : Int32) (x12 : Int32) (s0 : Int32) (hf : b_L_ahead_569 rec27 h x0 x1 x2 x3 x4 x5 x6 x7 x8 x9 x10 x11 x12 s0 = some out) : EE K (true, 4, 148) 569 [some (.ref x0), some (.int x1), some (.int x2), some (.ref x3), some (.ref x4), some (.ref x5), some (.ref x6), some (.ref x7), some (.ref x8), some (.ref x9), some (.int x10), some (.int x11), some (.int x12), none] [.int s0] h := by
  unfold b_L_ahead_569 at hf
  refine E_iload (pc := 569) O dL_ahead_569 rfl ?_
  refine E_if_eq (pc := 571) O 579 dL_ahead_571 (by decide) hf (fun hf => ?_) (fun hf => ?_)
  · refine E_iconst (pc := 579) O (-1 : Int32) dL_ahead_579 (by decide) ?_
    exact E_sub (L' := [some (.ref x0), some (.int x1), some (.int x2), some (.ref x3), some (.ref x4), some (.ref x5), some (.ref x6), some (.ref x7), some (.ref x8), some (.ref x9), some (.int x10), none, none, none]) (And.intro rfl (And.intro rfl (And.intro rfl (And.intro rfl (And.intro rfl (And.intro rfl (And.intro rfl (And.intro rfl (And.intro rfl (And.intro rfl (And.intro rfl True.intro))))))))))) (t_b_L_ahead_580 O Z _ hr27 h x0 x1 x2 x3 x4 x5 x6 x7 x8 x9 x10 s0 (-1 : Int32) hf)
  · refine E_iload (pc := 574) O dL_ahead_574 rfl ?_
    refine E_goto (pc := 576) O 580 dL_ahead_576 (by decide) ?_
    exact E_sub (L' := [some (.ref x0), some (.int x1), some (.int x2), some (.ref x3), some (.ref x4), some (.ref x5), some (.ref x6), some (.ref x7), some (.ref x8), some (.ref x9), some (.int x10), none, none, none]) (And.intro rfl (And.intro rfl (And.intro rfl (And.intro rfl (And.intro rfl (And.intro rfl (And.intro rfl (And.intro rfl (And.intro rfl (And.intro rfl (And.intro rfl True.intro))))))))))) (t_b_L_ahead_580 O Z _ hr27 h x0 x1 x2 x3 x4 x5 x6 x7 x8 x9 x10 s0 x11 hf)
set_option maxHeartbeats 4000000 in
set_option maxRecDepth 100000 in
theorem t_b_L_ahead_553 {K : Cx} {out : (Int32 × MH)} (O : Ok K yL_ahead.cls cL_ahead 14 (rmm 7 171 4 148)) (Z : Out K (some .boolean) true (some (.int out.1)) out.2) (rec27 : MH → Nat → Int32 → Int32 → Nat → Nat → Nat → Nat → Nat → Nat → Nat → Int32 → Option (Int32 × MH)) (hr27 : ∀ (h : MH) (x0 : Nat) (x1 : Int32) (x2 : Int32) (x3 : Nat) (x4 : Nat) (x5 : Nat) (x6 : Nat) (x7 : Nat) (x8 : Nat) (x9 : Nat) (x10 : Int32), rec27 h x0 x1 x2 x3 x4 x5 x6 x7 x8 x9 x10 = some out → EE K (true, 4, 148) 27 [some (.ref x0), some (.int x1), some (.int x2), some (.ref x3), some (.ref x4), some (.ref x5), some (.ref x6), some (.ref x7), some (.ref x8), some (.ref x9), some (.int x10), none, none, none] [] h) (h : MH) (x0 : Nat) (x1 : Int32) (x2 : Int32) (x3 : Nat) (x4 : Nat) (x5 : Nat) (x6 : Nat) (x7 : Nat) (x8 : Nat) (x9 : Nat) (x10 : Int32) (x11 : Int32) (x12 : Int32) (hf : b_L_ahead_553 rec27 h x0 x1 x2 x3 x4 x5 x6 x7 x8 x9 x10 x11 x12 = some out) : EE K (true, 4, 148) 553 [some (.ref x0), some (.int x1), some (.int x2), some (.ref x3), some (.ref x4), some (.ref x5), some (.ref x6), some (.ref x7), some (.ref x8), some (.ref x9), some (.int x10), some (.int x11), some (.int x12), none] [] h := by
  unfold b_L_ahead_553 at hf
  refine E_iload (pc := 553) O dL_ahead_553 rfl ?_
  refine E_if_ne (pc := 555) O 565 dL_ahead_555 (by decide) hf (fun hf => ?_) (fun hf => ?_)
  · refine E_aload_n (pc := 565) O 0 dL_ahead_565 rfl rfl ?_
    refine E_callV_i (pc := 566) (S := []) O [] CV_RailSequenceLaw_72 rfl (fun r e => t_X3_allOffIn e) dL_ahead_566 hf rfl ⟨(Nat.le_of_ble_eq_true rfl), (Nat.le_of_ble_eq_true rfl)⟩ ⟨(Nat.le_of_ble_eq_true rfl), (Nat.le_of_ble_eq_true rfl)⟩ (Nat.le_of_ble_eq_true rfl) (fun p1 hf => ?_)
    exact t_b_L_ahead_569 O Z _ hr27 p1.2 x0 x1 x2 x3 x4 x5 x6 x7 x8 x9 x10 x11 x12 p1.1 hf
  · refine E_aload_n (pc := 558) O 0 dL_ahead_558 rfl rfl ?_
    refine E_callV_i (pc := 559) (S := []) O [] CV_RailSequenceLaw_68 rfl (fun r e => t_X3_allGoodIn e) dL_ahead_559 hf rfl ⟨(Nat.le_of_ble_eq_true rfl), (Nat.le_of_ble_eq_true rfl)⟩ ⟨(Nat.le_of_ble_eq_true rfl), (Nat.le_of_ble_eq_true rfl)⟩ (Nat.le_of_ble_eq_true rfl) (fun p2 hf => ?_)
    refine E_goto (pc := 562) O 569 dL_ahead_562 (by decide) ?_
    exact t_b_L_ahead_569 O Z _ hr27 p2.2 x0 x1 x2 x3 x4 x5 x6 x7 x8 x9 x10 x11 x12 p2.1 hf
set_option maxHeartbeats 4000000 in
set_option maxRecDepth 100000 in
theorem t_b_L_ahead_519 {K : Cx} {out : (Int32 × MH)} (O : Ok K yL_ahead.cls cL_ahead 14 (rmm 7 171 4 148)) (Z : Out K (some .boolean) true (some (.int out.1)) out.2) (rec27 : MH → Nat → Int32 → Int32 → Nat → Nat → Nat → Nat → Nat → Nat → Nat → Int32 → Option (Int32 × MH)) (hr27 : ∀ (h : MH) (x0 : Nat) (x1 : Int32) (x2 : Int32) (x3 : Nat) (x4 : Nat) (x5 : Nat) (x6 : Nat) (x7 : Nat) (x8 : Nat) (x9 : Nat) (x10 : Int32), rec27 h x0 x1 x2 x3 x4 x5 x6 x7 x8 x9 x10 = some out → EE K (true, 4, 148) 27 [some (.ref x0), some (.int x1), some (.int x2), some (.ref x3), some (.ref x4), some (.ref x5), some (.ref x6), some (.ref x7), some (.ref x8), some (.ref x9), some (.int x10), none, none, none] [] h) (rec416 : MH → Nat → Int32 → Int32 → Nat → Nat → Nat → Nat → Nat → Nat → Nat → Int32 → Int32 → Int32 → Option (Int32 × MH)) (hr416 : ∀ (h : MH) (x0 : Nat) (x1 : Int32) (x2 : Int32) (x3 : Nat) (x4 : Nat) (x5 : Nat) (x6 : Nat) (x7 : Nat) (x8 : Nat) (x9 : Nat) (x10 : Int32) (x11 : Int32) (x12 : Int32), rec416 h x0 x1 x2 x3 x4 x5 x6 x7 x8 x9 x10 x11 x12 = some out → EE K (true, 4, 148) 416 [some (.ref x0), some (.int x1), some (.int x2), some (.ref x3), some (.ref x4), some (.ref x5), some (.ref x6), some (.ref x7), some (.ref x8), some (.ref x9), some (.int x10), some (.int x11), some (.int x12), none] [] h) (rec435 : MH → Nat → Int32 → Int32 → Nat → Nat → Nat → Nat → Nat → Nat → Nat → Int32 → Int32 → Int32 → Int32 → Option (Int32 × MH)) (hr435 : ∀ (h : MH) (x0 : Nat) (x1 : Int32) (x2 : Int32) (x3 : Nat) (x4 : Nat) (x5 : Nat) (x6 : Nat) (x7 : Nat) (x8 : Nat) (x9 : Nat) (x10 : Int32) (x11 : Int32) (x12 : Int32) (x13 : Int32), rec435 h x0 x1 x2 x3 x4 x5 x6 x7 x8 x9 x10 x11 x12 x13 = some out → EE K (true, 4, 148) 435 [some (.ref x0), some (.int x1), some (.int x2), some (.ref x3), some (.ref x4), some (.ref x5), some (.ref x6), some (.ref x7), some (.ref x8), some (.ref x9), some (.int x10), some (.int x11), some (.int x12), some (.int x13)] [] h) (h : MH) (x0 : Nat) (x1 : Int32) (x2 : Int32) (x3 : Nat) (x4 : Nat) (x5 : Nat) (x6 : Nat) (x7 : Nat) (x8 : Nat) (x9 : Nat) (x10 : Int32) (x11 : Int32) (x13 : Int32) (s0 : Int32) (hf : b_L_ahead_519 rec27 rec416 rec435 h x0 x1 x2 x3 x4 x5 x6 x7 x8 x9 x10 x11 x13 s0 = some out) : EE K (true, 4, 148) 519 [some (.ref x0), some (.int x1), some (.int x2), some (.ref x3), some (.ref x4), some (.ref x5), some (.ref x6), some (.ref x7), some (.ref x8), some (.ref x9), some (.int x10), some (.int x11), none, some (.int x13)] [.int s0] h := by
  unfold b_L_ahead_519 at hf
  refine E_istore (pc := 519) O [some (.ref x0), some (.int x1), some (.int x2), some (.ref x3), some (.ref x4), some (.ref x5), some (.ref x6), some (.ref x7), some (.ref x8), some (.ref x9), some (.int x10), some (.int x11), some (.int s0), some (.int x13)] dL_ahead_519 (by decide) rfl rfl ?_
  refine E_iinc (pc := 521) O (1 : Int32) [some (.ref x0), some (.int x1), some (.int x2), some (.ref x3), some (.ref x4), some (.ref x5), some (.ref x6), some (.ref x7), some (.ref x8), some (.ref x9), some (.int x10), some (.int x11), some (.int s0), some (.int (x13 + (1 : Int32)))] dL_ahead_521 rfl (by decide) rfl (by decide) rfl ?_
  refine E_goto (pc := 524) O 435 dL_ahead_524 (by decide) ?_
  exact hr435 h x0 x1 x2 x3 x4 x5 x6 x7 x8 x9 x10 x11 s0 (x13 + (1 : Int32)) hf
set_option maxHeartbeats 4000000 in
set_option maxRecDepth 100000 in
theorem t_b_L_ahead_514 {K : Cx} {out : (Int32 × MH)} (O : Ok K yL_ahead.cls cL_ahead 14 (rmm 7 171 4 148)) (Z : Out K (some .boolean) true (some (.int out.1)) out.2) (rec27 : MH → Nat → Int32 → Int32 → Nat → Nat → Nat → Nat → Nat → Nat → Nat → Int32 → Option (Int32 × MH)) (hr27 : ∀ (h : MH) (x0 : Nat) (x1 : Int32) (x2 : Int32) (x3 : Nat) (x4 : Nat) (x5 : Nat) (x6 : Nat) (x7 : Nat) (x8 : Nat) (x9 : Nat) (x10 : Int32), rec27 h x0 x1 x2 x3 x4 x5 x6 x7 x8 x9 x10 = some out → EE K (true, 4, 148) 27 [some (.ref x0), some (.int x1), some (.int x2), some (.ref x3), some (.ref x4), some (.ref x5), some (.ref x6), some (.ref x7), some (.ref x8), some (.ref x9), some (.int x10), none, none, none] [] h) (rec416 : MH → Nat → Int32 → Int32 → Nat → Nat → Nat → Nat → Nat → Nat → Nat → Int32 → Int32 → Int32 → Option (Int32 × MH)) (hr416 : ∀ (h : MH) (x0 : Nat) (x1 : Int32) (x2 : Int32) (x3 : Nat) (x4 : Nat) (x5 : Nat) (x6 : Nat) (x7 : Nat) (x8 : Nat) (x9 : Nat) (x10 : Int32) (x11 : Int32) (x12 : Int32), rec416 h x0 x1 x2 x3 x4 x5 x6 x7 x8 x9 x10 x11 x12 = some out → EE K (true, 4, 148) 416 [some (.ref x0), some (.int x1), some (.int x2), some (.ref x3), some (.ref x4), some (.ref x5), some (.ref x6), some (.ref x7), some (.ref x8), some (.ref x9), some (.int x10), some (.int x11), some (.int x12), none] [] h) (rec435 : MH → Nat → Int32 → Int32 → Nat → Nat → Nat → Nat → Nat → Nat → Nat → Int32 → Int32 → Int32 → Int32 → Option (Int32 × MH)) (hr435 : ∀ (h : MH) (x0 : Nat) (x1 : Int32) (x2 : Int32) (x3 : Nat) (x4 : Nat) (x5 : Nat) (x6 : Nat) (x7 : Nat) (x8 : Nat) (x9 : Nat) (x10 : Int32) (x11 : Int32) (x12 : Int32) (x13 : Int32), rec435 h x0 x1 x2 x3 x4 x5 x6 x7 x8 x9 x10 x11 x12 x13 = some out → EE K (true, 4, 148) 435 [some (.ref x0), some (.int x1), some (.int x2), some (.ref x3), some (.ref x4), some (.ref x5), some (.ref x6), some (.ref x7), some (.ref x8), some (.ref x9), some (.int x10), some (.int x11), some (.int x12), some (.int x13)] [] h) (h : MH) (x0 : Nat) (x1 : Int32) (x2 : Int32) (x3 : Nat) (x4 : Nat) (x5 : Nat) (x6 : Nat) (x7 : Nat) (x8 : Nat) (x9 : Nat) (x10 : Int32) (x11 : Int32) (x13 : Int32) (hf : b_L_ahead_514 rec27 rec416 rec435 h x0 x1 x2 x3 x4 x5 x6 x7 x8 x9 x10 x11 x13 = some out) : EE K (true, 4, 148) 514 [some (.ref x0), some (.int x1), some (.int x2), some (.ref x3), some (.ref x4), some (.ref x5), some (.ref x6), some (.ref x7), some (.ref x8), some (.ref x9), some (.int x10), some (.int x11), none, some (.int x13)] [] h := by
  unfold b_L_ahead_514 at hf
  refine E_iconst (pc := 514) O (1 : Int32) dL_ahead_514 (by decide) ?_
  refine E_goto (pc := 515) O 519 dL_ahead_515 (by decide) ?_
  exact t_b_L_ahead_519 O Z _ hr27 _ hr416 _ hr435 h x0 x1 x2 x3 x4 x5 x6 x7 x8 x9 x10 x11 x13 (1 : Int32) hf
set_option maxHeartbeats 4000000 in
set_option maxRecDepth 100000 in
theorem t_b_L_ahead_518 {K : Cx} {out : (Int32 × MH)} (O : Ok K yL_ahead.cls cL_ahead 14 (rmm 7 171 4 148)) (Z : Out K (some .boolean) true (some (.int out.1)) out.2) (rec27 : MH → Nat → Int32 → Int32 → Nat → Nat → Nat → Nat → Nat → Nat → Nat → Int32 → Option (Int32 × MH)) (hr27 : ∀ (h : MH) (x0 : Nat) (x1 : Int32) (x2 : Int32) (x3 : Nat) (x4 : Nat) (x5 : Nat) (x6 : Nat) (x7 : Nat) (x8 : Nat) (x9 : Nat) (x10 : Int32), rec27 h x0 x1 x2 x3 x4 x5 x6 x7 x8 x9 x10 = some out → EE K (true, 4, 148) 27 [some (.ref x0), some (.int x1), some (.int x2), some (.ref x3), some (.ref x4), some (.ref x5), some (.ref x6), some (.ref x7), some (.ref x8), some (.ref x9), some (.int x10), none, none, none] [] h) (rec416 : MH → Nat → Int32 → Int32 → Nat → Nat → Nat → Nat → Nat → Nat → Nat → Int32 → Int32 → Int32 → Option (Int32 × MH)) (hr416 : ∀ (h : MH) (x0 : Nat) (x1 : Int32) (x2 : Int32) (x3 : Nat) (x4 : Nat) (x5 : Nat) (x6 : Nat) (x7 : Nat) (x8 : Nat) (x9 : Nat) (x10 : Int32) (x11 : Int32) (x12 : Int32), rec416 h x0 x1 x2 x3 x4 x5 x6 x7 x8 x9 x10 x11 x12 = some out → EE K (true, 4, 148) 416 [some (.ref x0), some (.int x1), some (.int x2), some (.ref x3), some (.ref x4), some (.ref x5), some (.ref x6), some (.ref x7), some (.ref x8), some (.ref x9), some (.int x10), some (.int x11), some (.int x12), none] [] h) (rec435 : MH → Nat → Int32 → Int32 → Nat → Nat → Nat → Nat → Nat → Nat → Nat → Int32 → Int32 → Int32 → Int32 → Option (Int32 × MH)) (hr435 : ∀ (h : MH) (x0 : Nat) (x1 : Int32) (x2 : Int32) (x3 : Nat) (x4 : Nat) (x5 : Nat) (x6 : Nat) (x7 : Nat) (x8 : Nat) (x9 : Nat) (x10 : Int32) (x11 : Int32) (x12 : Int32) (x13 : Int32), rec435 h x0 x1 x2 x3 x4 x5 x6 x7 x8 x9 x10 x11 x12 x13 = some out → EE K (true, 4, 148) 435 [some (.ref x0), some (.int x1), some (.int x2), some (.ref x3), some (.ref x4), some (.ref x5), some (.ref x6), some (.ref x7), some (.ref x8), some (.ref x9), some (.int x10), some (.int x11), some (.int x12), some (.int x13)] [] h) (h : MH) (x0 : Nat) (x1 : Int32) (x2 : Int32) (x3 : Nat) (x4 : Nat) (x5 : Nat) (x6 : Nat) (x7 : Nat) (x8 : Nat) (x9 : Nat) (x10 : Int32) (x11 : Int32) (x13 : Int32) (hf : b_L_ahead_518 rec27 rec416 rec435 h x0 x1 x2 x3 x4 x5 x6 x7 x8 x9 x10 x11 x13 = some out) : EE K (true, 4, 148) 518 [some (.ref x0), some (.int x1), some (.int x2), some (.ref x3), some (.ref x4), some (.ref x5), some (.ref x6), some (.ref x7), some (.ref x8), some (.ref x9), some (.int x10), some (.int x11), none, some (.int x13)] [] h := by
  unfold b_L_ahead_518 at hf
  refine E_iconst (pc := 518) O (0 : Int32) dL_ahead_518 (by decide) ?_
  exact t_b_L_ahead_519 O Z _ hr27 _ hr416 _ hr435 h x0 x1 x2 x3 x4 x5 x6 x7 x8 x9 x10 x11 x13 (0 : Int32) hf
set_option maxHeartbeats 4000000 in
set_option maxRecDepth 100000 in
theorem t_b_L_ahead_435 {K : Cx} {out : (Int32 × MH)} (O : Ok K yL_ahead.cls cL_ahead 14 (rmm 7 171 4 148)) (Z : Out K (some .boolean) true (some (.int out.1)) out.2) (rec27 : MH → Nat → Int32 → Int32 → Nat → Nat → Nat → Nat → Nat → Nat → Nat → Int32 → Option (Int32 × MH)) (hr27 : ∀ (h : MH) (x0 : Nat) (x1 : Int32) (x2 : Int32) (x3 : Nat) (x4 : Nat) (x5 : Nat) (x6 : Nat) (x7 : Nat) (x8 : Nat) (x9 : Nat) (x10 : Int32), rec27 h x0 x1 x2 x3 x4 x5 x6 x7 x8 x9 x10 = some out → EE K (true, 4, 148) 27 [some (.ref x0), some (.int x1), some (.int x2), some (.ref x3), some (.ref x4), some (.ref x5), some (.ref x6), some (.ref x7), some (.ref x8), some (.ref x9), some (.int x10), none, none, none] [] h) (rec416 : MH → Nat → Int32 → Int32 → Nat → Nat → Nat → Nat → Nat → Nat → Nat → Int32 → Int32 → Int32 → Option (Int32 × MH)) (hr416 : ∀ (h : MH) (x0 : Nat) (x1 : Int32) (x2 : Int32) (x3 : Nat) (x4 : Nat) (x5 : Nat) (x6 : Nat) (x7 : Nat) (x8 : Nat) (x9 : Nat) (x10 : Int32) (x11 : Int32) (x12 : Int32), rec416 h x0 x1 x2 x3 x4 x5 x6 x7 x8 x9 x10 x11 x12 = some out → EE K (true, 4, 148) 416 [some (.ref x0), some (.int x1), some (.int x2), some (.ref x3), some (.ref x4), some (.ref x5), some (.ref x6), some (.ref x7), some (.ref x8), some (.ref x9), some (.int x10), some (.int x11), some (.int x12), none] [] h) (rec435 : MH → Nat → Int32 → Int32 → Nat → Nat → Nat → Nat → Nat → Nat → Nat → Int32 → Int32 → Int32 → Int32 → Option (Int32 × MH)) (hr435 : ∀ (h : MH) (x0 : Nat) (x1 : Int32) (x2 : Int32) (x3 : Nat) (x4 : Nat) (x5 : Nat) (x6 : Nat) (x7 : Nat) (x8 : Nat) (x9 : Nat) (x10 : Int32) (x11 : Int32) (x12 : Int32) (x13 : Int32), rec435 h x0 x1 x2 x3 x4 x5 x6 x7 x8 x9 x10 x11 x12 x13 = some out → EE K (true, 4, 148) 435 [some (.ref x0), some (.int x1), some (.int x2), some (.ref x3), some (.ref x4), some (.ref x5), some (.ref x6), some (.ref x7), some (.ref x8), some (.ref x9), some (.int x10), some (.int x11), some (.int x12), some (.int x13)] [] h) (h : MH) (x0 : Nat) (x1 : Int32) (x2 : Int32) (x3 : Nat) (x4 : Nat) (x5 : Nat) (x6 : Nat) (x7 : Nat) (x8 : Nat) (x9 : Nat) (x10 : Int32) (x11 : Int32) (x12 : Int32) (x13 : Int32) (hf : b_L_ahead_435 rec27 rec416 rec435 h x0 x1 x2 x3 x4 x5 x6 x7 x8 x9 x10 x11 x12 x13 = some out) : EE K (true, 4, 148) 435 [some (.ref x0), some (.int x1), some (.int x2), some (.ref x3), some (.ref x4), some (.ref x5), some (.ref x6), some (.ref x7), some (.ref x8), some (.ref x9), some (.int x10), some (.int x11), some (.int x12), some (.int x13)] [] h := by
  unfold b_L_ahead_435 at hf
  refine E_iload (pc := 435) O dL_ahead_435 rfl ?_
  refine E_aload (pc := 437) O dL_ahead_437 rfl ?_
  refine E_iconst (pc := 439) O (0 : Int32) dL_ahead_439 (by decide) ?_
  refine E_iaload (pc := 440) O dL_ahead_440 hf (fun v3 hf => ?_)
  refine E_icmp_ge (pc := 441) O 527 dL_ahead_441 (by decide) hf (fun hf => ?_) (fun hf => ?_)
  · refine E_iload (pc := 527) O dL_ahead_527 rfl ?_
    refine E_if_eq (pc := 529) O 535 dL_ahead_529 (by decide) hf (fun hf => ?_) (fun hf => ?_)
    · refine E_aload_n (pc := 535) O 3 dL_ahead_535 rfl rfl ?_
      refine E_aload (pc := 536) O dL_ahead_536 rfl ?_
      refine E_aload (pc := 538) O dL_ahead_538 rfl ?_
      refine E_aload (pc := 540) O dL_ahead_540 rfl ?_
      refine E_aload (pc := 542) O dL_ahead_542 rfl ?_
      refine E_callS_v (pc := 544) (S := []) O [.ref x3, .ref x6, .ref x7, .ref x8, .ref x9] CS_RailSequenceLaw_57 (fun r e => t_L_tick e) dL_ahead_544 hf rfl ⟨(Nat.le_of_ble_eq_true rfl), (Nat.le_of_ble_eq_true rfl)⟩ ⟨(Nat.le_of_ble_eq_true rfl), (Nat.le_of_ble_eq_true rfl)⟩ (Nat.le_of_ble_eq_true rfl) (fun h4 hf => ?_)
      refine E_iinc (pc := 547) O (1 : Int32) [some (.ref x0), some (.int x1), some (.int x2), some (.ref x3), some (.ref x4), some (.ref x5), some (.ref x6), some (.ref x7), some (.ref x8), some (.ref x9), some (.int x10), some (.int (x11 + (1 : Int32))), some (.int x12), some (.int x13)] dL_ahead_547 rfl (by decide) rfl (by decide) rfl ?_
      refine E_goto (pc := 550) O 416 dL_ahead_550 (by decide) ?_
      exact E_sub (L' := [some (.ref x0), some (.int x1), some (.int x2), some (.ref x3), some (.ref x4), some (.ref x5), some (.ref x6), some (.ref x7), some (.ref x8), some (.ref x9), some (.int x10), some (.int (x11 + (1 : Int32))), some (.int x12), none]) (And.intro rfl (And.intro rfl (And.intro rfl (And.intro rfl (And.intro rfl (And.intro rfl (And.intro rfl (And.intro rfl (And.intro rfl (And.intro rfl (And.intro rfl (And.intro rfl (And.intro rfl True.intro))))))))))))) (hr416 h4 x0 x1 x2 x3 x4 x5 x6 x7 x8 x9 x10 (x11 + (1 : Int32)) x12 hf)
    · refine E_goto (pc := 532) O 553 dL_ahead_532 (by decide) ?_
      exact E_sub (L' := [some (.ref x0), some (.int x1), some (.int x2), some (.ref x3), some (.ref x4), some (.ref x5), some (.ref x6), some (.ref x7), some (.ref x8), some (.ref x9), some (.int x10), some (.int x11), some (.int x12), none]) (And.intro rfl (And.intro rfl (And.intro rfl (And.intro rfl (And.intro rfl (And.intro rfl (And.intro rfl (And.intro rfl (And.intro rfl (And.intro rfl (And.intro rfl (And.intro rfl (And.intro rfl True.intro))))))))))))) (t_b_L_ahead_553 O Z _ hr27 h x0 x1 x2 x3 x4 x5 x6 x7 x8 x9 x10 x11 x12 hf)
  · refine E_iload (pc := 444) O dL_ahead_444 rfl ?_
    refine E_if_eq (pc := 446) O 518 dL_ahead_446 (by decide) hf (fun hf => ?_) (fun hf => ?_)
    · exact E_sub (L' := [some (.ref x0), some (.int x1), some (.int x2), some (.ref x3), some (.ref x4), some (.ref x5), some (.ref x6), some (.ref x7), some (.ref x8), some (.ref x9), some (.int x10), some (.int x11), none, some (.int x13)]) (And.intro rfl (And.intro rfl (And.intro rfl (And.intro rfl (And.intro rfl (And.intro rfl (And.intro rfl (And.intro rfl (And.intro rfl (And.intro rfl (And.intro rfl (And.intro rfl (And.intro rfl True.intro))))))))))))) (t_b_L_ahead_518 O Z _ hr27 _ hr416 _ hr435 h x0 x1 x2 x3 x4 x5 x6 x7 x8 x9 x10 x11 x13 hf)
    · refine E_iload (pc := 449) O dL_ahead_449 rfl ?_
      refine E_if_ne (pc := 451) O 484 dL_ahead_451 (by decide) hf (fun hf => ?_) (fun hf => ?_)
      · refine E_aload (pc := 484) O dL_ahead_484 rfl ?_
        refine E_bipush (pc := 486) O (9 : Int32) dL_ahead_486 (by decide) ?_
        refine E_iload (pc := 488) O dL_ahead_488 rfl ?_
        refine E_imul (pc := 490) O dL_ahead_490 ?_
        refine E_iconst (pc := 491) O (2 : Int32) dL_ahead_491 (by decide) ?_
        refine E_iadd (pc := 492) O dL_ahead_492 ?_
        refine E_iaload (pc := 493) O dL_ahead_493 hf (fun v5 hf => ?_)
        refine E_if_ne (pc := 494) O 518 dL_ahead_494 (by decide) hf (fun hf => ?_) (fun hf => ?_)
        · exact E_sub (L' := [some (.ref x0), some (.int x1), some (.int x2), some (.ref x3), some (.ref x4), some (.ref x5), some (.ref x6), some (.ref x7), some (.ref x8), some (.ref x9), some (.int x10), some (.int x11), none, some (.int x13)]) (And.intro rfl (And.intro rfl (And.intro rfl (And.intro rfl (And.intro rfl (And.intro rfl (And.intro rfl (And.intro rfl (And.intro rfl (And.intro rfl (And.intro rfl (And.intro rfl (And.intro rfl True.intro))))))))))))) (t_b_L_ahead_518 O Z _ hr27 _ hr416 _ hr435 h x0 x1 x2 x3 x4 x5 x6 x7 x8 x9 x10 x11 x13 hf)
        · refine E_aload (pc := 497) O dL_ahead_497 rfl ?_
          refine E_bipush (pc := 499) O (9 : Int32) dL_ahead_499 (by decide) ?_
          refine E_iload (pc := 501) O dL_ahead_501 rfl ?_
          refine E_imul (pc := 503) O dL_ahead_503 ?_
          refine E_iconst (pc := 504) O (3 : Int32) dL_ahead_504 (by decide) ?_
          refine E_iadd (pc := 505) O dL_ahead_505 ?_
          refine E_iaload (pc := 506) O dL_ahead_506 hf (fun v6 hf => ?_)
          refine E_aload (pc := 507) O dL_ahead_507 rfl ?_
          refine E_iconst (pc := 509) O (1 : Int32) dL_ahead_509 (by decide) ?_
          refine E_iaload (pc := 510) O dL_ahead_510 hf (fun v7 hf => ?_)
          refine E_icmp_gt (pc := 511) O 518 dL_ahead_511 (by decide) hf (fun hf => ?_) (fun hf => ?_)
          · exact E_sub (L' := [some (.ref x0), some (.int x1), some (.int x2), some (.ref x3), some (.ref x4), some (.ref x5), some (.ref x6), some (.ref x7), some (.ref x8), some (.ref x9), some (.int x10), some (.int x11), none, some (.int x13)]) (And.intro rfl (And.intro rfl (And.intro rfl (And.intro rfl (And.intro rfl (And.intro rfl (And.intro rfl (And.intro rfl (And.intro rfl (And.intro rfl (And.intro rfl (And.intro rfl (And.intro rfl True.intro))))))))))))) (t_b_L_ahead_518 O Z _ hr27 _ hr416 _ hr435 h x0 x1 x2 x3 x4 x5 x6 x7 x8 x9 x10 x11 x13 hf)
          · exact E_sub (L' := [some (.ref x0), some (.int x1), some (.int x2), some (.ref x3), some (.ref x4), some (.ref x5), some (.ref x6), some (.ref x7), some (.ref x8), some (.ref x9), some (.int x10), some (.int x11), none, some (.int x13)]) (And.intro rfl (And.intro rfl (And.intro rfl (And.intro rfl (And.intro rfl (And.intro rfl (And.intro rfl (And.intro rfl (And.intro rfl (And.intro rfl (And.intro rfl (And.intro rfl (And.intro rfl True.intro))))))))))))) (t_b_L_ahead_514 O Z _ hr27 _ hr416 _ hr435 h x0 x1 x2 x3 x4 x5 x6 x7 x8 x9 x10 x11 x13 hf)
      · refine E_aload (pc := 454) O dL_ahead_454 rfl ?_
        refine E_bipush (pc := 456) O (9 : Int32) dL_ahead_456 (by decide) ?_
        refine E_iload (pc := 458) O dL_ahead_458 rfl ?_
        refine E_imul (pc := 460) O dL_ahead_460 ?_
        refine E_iconst (pc := 461) O (1 : Int32) dL_ahead_461 (by decide) ?_
        refine E_iadd (pc := 462) O dL_ahead_462 ?_
        refine E_iaload (pc := 463) O dL_ahead_463 hf (fun v8 hf => ?_)
        refine E_if_eq (pc := 464) O 514 dL_ahead_464 (by decide) hf (fun hf => ?_) (fun hf => ?_)
        · exact E_sub (L' := [some (.ref x0), some (.int x1), some (.int x2), some (.ref x3), some (.ref x4), some (.ref x5), some (.ref x6), some (.ref x7), some (.ref x8), some (.ref x9), some (.int x10), some (.int x11), none, some (.int x13)]) (And.intro rfl (And.intro rfl (And.intro rfl (And.intro rfl (And.intro rfl (And.intro rfl (And.intro rfl (And.intro rfl (And.intro rfl (And.intro rfl (And.intro rfl (And.intro rfl (And.intro rfl True.intro))))))))))))) (t_b_L_ahead_514 O Z _ hr27 _ hr416 _ hr435 h x0 x1 x2 x3 x4 x5 x6 x7 x8 x9 x10 x11 x13 hf)
        · refine E_aload (pc := 467) O dL_ahead_467 rfl ?_
          refine E_bipush (pc := 469) O (9 : Int32) dL_ahead_469 (by decide) ?_
          refine E_iload (pc := 471) O dL_ahead_471 rfl ?_
          refine E_imul (pc := 473) O dL_ahead_473 ?_
          refine E_iconst (pc := 474) O (2 : Int32) dL_ahead_474 (by decide) ?_
          refine E_iadd (pc := 475) O dL_ahead_475 ?_
          refine E_iaload (pc := 476) O dL_ahead_476 hf (fun v9 hf => ?_)
          refine E_iconst (pc := 477) O (3 : Int32) dL_ahead_477 (by decide) ?_
          refine E_icmp_ne (pc := 478) O 518 dL_ahead_478 (by decide) hf (fun hf => ?_) (fun hf => ?_)
          · exact E_sub (L' := [some (.ref x0), some (.int x1), some (.int x2), some (.ref x3), some (.ref x4), some (.ref x5), some (.ref x6), some (.ref x7), some (.ref x8), some (.ref x9), some (.int x10), some (.int x11), none, some (.int x13)]) (And.intro rfl (And.intro rfl (And.intro rfl (And.intro rfl (And.intro rfl (And.intro rfl (And.intro rfl (And.intro rfl (And.intro rfl (And.intro rfl (And.intro rfl (And.intro rfl (And.intro rfl True.intro))))))))))))) (t_b_L_ahead_518 O Z _ hr27 _ hr416 _ hr435 h x0 x1 x2 x3 x4 x5 x6 x7 x8 x9 x10 x11 x13 hf)
          · refine E_goto (pc := 481) O 514 dL_ahead_481 (by decide) ?_
            exact E_sub (L' := [some (.ref x0), some (.int x1), some (.int x2), some (.ref x3), some (.ref x4), some (.ref x5), some (.ref x6), some (.ref x7), some (.ref x8), some (.ref x9), some (.int x10), some (.int x11), none, some (.int x13)]) (And.intro rfl (And.intro rfl (And.intro rfl (And.intro rfl (And.intro rfl (And.intro rfl (And.intro rfl (And.intro rfl (And.intro rfl (And.intro rfl (And.intro rfl (And.intro rfl (And.intro rfl True.intro))))))))))))) (t_b_L_ahead_514 O Z _ hr27 _ hr416 _ hr435 h x0 x1 x2 x3 x4 x5 x6 x7 x8 x9 x10 x11 x13 hf)
theorem t_f_L_ahead_435 {K : Cx} {out : (Int32 × MH)} (O : Ok K yL_ahead.cls cL_ahead 14 (rmm 7 171 4 148)) (Z : Out K (some .boolean) true (some (.int out.1)) out.2) (rec27 : MH → Nat → Int32 → Int32 → Nat → Nat → Nat → Nat → Nat → Nat → Nat → Int32 → Option (Int32 × MH)) (hr27 : ∀ (h : MH) (x0 : Nat) (x1 : Int32) (x2 : Int32) (x3 : Nat) (x4 : Nat) (x5 : Nat) (x6 : Nat) (x7 : Nat) (x8 : Nat) (x9 : Nat) (x10 : Int32), rec27 h x0 x1 x2 x3 x4 x5 x6 x7 x8 x9 x10 = some out → EE K (true, 4, 148) 27 [some (.ref x0), some (.int x1), some (.int x2), some (.ref x3), some (.ref x4), some (.ref x5), some (.ref x6), some (.ref x7), some (.ref x8), some (.ref x9), some (.int x10), none, none, none] [] h) (rec416 : MH → Nat → Int32 → Int32 → Nat → Nat → Nat → Nat → Nat → Nat → Nat → Int32 → Int32 → Int32 → Option (Int32 × MH)) (hr416 : ∀ (h : MH) (x0 : Nat) (x1 : Int32) (x2 : Int32) (x3 : Nat) (x4 : Nat) (x5 : Nat) (x6 : Nat) (x7 : Nat) (x8 : Nat) (x9 : Nat) (x10 : Int32) (x11 : Int32) (x12 : Int32), rec416 h x0 x1 x2 x3 x4 x5 x6 x7 x8 x9 x10 x11 x12 = some out → EE K (true, 4, 148) 416 [some (.ref x0), some (.int x1), some (.int x2), some (.ref x3), some (.ref x4), some (.ref x5), some (.ref x6), some (.ref x7), some (.ref x8), some (.ref x9), some (.int x10), some (.int x11), some (.int x12), none] [] h) : ∀ (n : Nat) (h : MH) (x0 : Nat) (x1 : Int32) (x2 : Int32) (x3 : Nat) (x4 : Nat) (x5 : Nat) (x6 : Nat) (x7 : Nat) (x8 : Nat) (x9 : Nat) (x10 : Int32) (x11 : Int32) (x12 : Int32) (x13 : Int32), f_L_ahead_435 rec27 rec416 n h x0 x1 x2 x3 x4 x5 x6 x7 x8 x9 x10 x11 x12 x13 = some out → EE K (true, 4, 148) 435 [some (.ref x0), some (.int x1), some (.int x2), some (.ref x3), some (.ref x4), some (.ref x5), some (.ref x6), some (.ref x7), some (.ref x8), some (.ref x9), some (.int x10), some (.int x11), some (.int x12), some (.int x13)] [] h := by
  intro n
  induction n with
  | zero => intro h x0 x1 x2 x3 x4 x5 x6 x7 x8 x9 x10 x11 x12 x13 hf; cases hf
  | succ n ih => intro h x0 x1 x2 x3 x4 x5 x6 x7 x8 x9 x10 x11 x12 x13 hf; exact t_b_L_ahead_435 O Z _ hr27 _ hr416 _ ih h x0 x1 x2 x3 x4 x5 x6 x7 x8 x9 x10 x11 x12 x13 hf
set_option maxHeartbeats 4000000 in
set_option maxRecDepth 100000 in
theorem t_b_L_ahead_416 {K : Cx} {out : (Int32 × MH)} (O : Ok K yL_ahead.cls cL_ahead 14 (rmm 7 171 4 148)) (Z : Out K (some .boolean) true (some (.int out.1)) out.2) (rec27 : MH → Nat → Int32 → Int32 → Nat → Nat → Nat → Nat → Nat → Nat → Nat → Int32 → Option (Int32 × MH)) (hr27 : ∀ (h : MH) (x0 : Nat) (x1 : Int32) (x2 : Int32) (x3 : Nat) (x4 : Nat) (x5 : Nat) (x6 : Nat) (x7 : Nat) (x8 : Nat) (x9 : Nat) (x10 : Int32), rec27 h x0 x1 x2 x3 x4 x5 x6 x7 x8 x9 x10 = some out → EE K (true, 4, 148) 27 [some (.ref x0), some (.int x1), some (.int x2), some (.ref x3), some (.ref x4), some (.ref x5), some (.ref x6), some (.ref x7), some (.ref x8), some (.ref x9), some (.int x10), none, none, none] [] h) (rec416 : MH → Nat → Int32 → Int32 → Nat → Nat → Nat → Nat → Nat → Nat → Nat → Int32 → Int32 → Int32 → Option (Int32 × MH)) (hr416 : ∀ (h : MH) (x0 : Nat) (x1 : Int32) (x2 : Int32) (x3 : Nat) (x4 : Nat) (x5 : Nat) (x6 : Nat) (x7 : Nat) (x8 : Nat) (x9 : Nat) (x10 : Int32) (x11 : Int32) (x12 : Int32), rec416 h x0 x1 x2 x3 x4 x5 x6 x7 x8 x9 x10 x11 x12 = some out → EE K (true, 4, 148) 416 [some (.ref x0), some (.int x1), some (.int x2), some (.ref x3), some (.ref x4), some (.ref x5), some (.ref x6), some (.ref x7), some (.ref x8), some (.ref x9), some (.int x10), some (.int x11), some (.int x12), none] [] h) (h : MH) (x0 : Nat) (x1 : Int32) (x2 : Int32) (x3 : Nat) (x4 : Nat) (x5 : Nat) (x6 : Nat) (x7 : Nat) (x8 : Nat) (x9 : Nat) (x10 : Int32) (x11 : Int32) (x12 : Int32) (hf : b_L_ahead_416 rec27 rec416 h x0 x1 x2 x3 x4 x5 x6 x7 x8 x9 x10 x11 x12 = some out) : EE K (true, 4, 148) 416 [some (.ref x0), some (.int x1), some (.int x2), some (.ref x3), some (.ref x4), some (.ref x5), some (.ref x6), some (.ref x7), some (.ref x8), some (.ref x9), some (.int x10), some (.int x11), some (.int x12), none] [] h := by
  unfold b_L_ahead_416 at hf
  refine E_iload (pc := 416) O dL_ahead_416 rfl ?_
  refine E_sipush (pc := 418) O (1001 : Int32) dL_ahead_418 (by decide) ?_
  refine E_icmp_ge (pc := 421) O 553 dL_ahead_421 (by decide) hf (fun hf => ?_) (fun hf => ?_)
  · exact t_b_L_ahead_553 O Z _ hr27 h x0 x1 x2 x3 x4 x5 x6 x7 x8 x9 x10 x11 x12 hf
  · refine E_iload (pc := 424) O dL_ahead_424 rfl ?_
    refine E_if_ne (pc := 426) O 553 dL_ahead_426 (by decide) hf (fun hf => ?_) (fun hf => ?_)
    · exact t_b_L_ahead_553 O Z _ hr27 h x0 x1 x2 x3 x4 x5 x6 x7 x8 x9 x10 x11 x12 hf
    · refine E_iconst (pc := 429) O (1 : Int32) dL_ahead_429 (by decide) ?_
      refine E_istore (pc := 430) O [some (.ref x0), some (.int x1), some (.int x2), some (.ref x3), some (.ref x4), some (.ref x5), some (.ref x6), some (.ref x7), some (.ref x8), some (.ref x9), some (.int x10), some (.int x11), some (.int (1 : Int32)), none] dL_ahead_430 (by decide) rfl rfl ?_
      refine E_iconst (pc := 432) O (0 : Int32) dL_ahead_432 (by decide) ?_
      refine E_istore (pc := 433) O [some (.ref x0), some (.int x1), some (.int x2), some (.ref x3), some (.ref x4), some (.ref x5), some (.ref x6), some (.ref x7), some (.ref x8), some (.ref x9), some (.int x10), some (.int x11), some (.int (1 : Int32)), some (.int (0 : Int32))] dL_ahead_433 (by decide) rfl rfl ?_
      exact t_f_L_ahead_435 O Z _ hr27 _ hr416 FU h x0 x1 x2 x3 x4 x5 x6 x7 x8 x9 x10 x11 (1 : Int32) (0 : Int32) hf
theorem t_f_L_ahead_416 {K : Cx} {out : (Int32 × MH)} (O : Ok K yL_ahead.cls cL_ahead 14 (rmm 7 171 4 148)) (Z : Out K (some .boolean) true (some (.int out.1)) out.2) (rec27 : MH → Nat → Int32 → Int32 → Nat → Nat → Nat → Nat → Nat → Nat → Nat → Int32 → Option (Int32 × MH)) (hr27 : ∀ (h : MH) (x0 : Nat) (x1 : Int32) (x2 : Int32) (x3 : Nat) (x4 : Nat) (x5 : Nat) (x6 : Nat) (x7 : Nat) (x8 : Nat) (x9 : Nat) (x10 : Int32), rec27 h x0 x1 x2 x3 x4 x5 x6 x7 x8 x9 x10 = some out → EE K (true, 4, 148) 27 [some (.ref x0), some (.int x1), some (.int x2), some (.ref x3), some (.ref x4), some (.ref x5), some (.ref x6), some (.ref x7), some (.ref x8), some (.ref x9), some (.int x10), none, none, none] [] h) : ∀ (n : Nat) (h : MH) (x0 : Nat) (x1 : Int32) (x2 : Int32) (x3 : Nat) (x4 : Nat) (x5 : Nat) (x6 : Nat) (x7 : Nat) (x8 : Nat) (x9 : Nat) (x10 : Int32) (x11 : Int32) (x12 : Int32), f_L_ahead_416 rec27 n h x0 x1 x2 x3 x4 x5 x6 x7 x8 x9 x10 x11 x12 = some out → EE K (true, 4, 148) 416 [some (.ref x0), some (.int x1), some (.int x2), some (.ref x3), some (.ref x4), some (.ref x5), some (.ref x6), some (.ref x7), some (.ref x8), some (.ref x9), some (.int x10), some (.int x11), some (.int x12), none] [] h := by
  intro n
  induction n with
  | zero => intro h x0 x1 x2 x3 x4 x5 x6 x7 x8 x9 x10 x11 x12 hf; cases hf
  | succ n ih => intro h x0 x1 x2 x3 x4 x5 x6 x7 x8 x9 x10 x11 x12 hf; exact t_b_L_ahead_416 O Z _ hr27 _ ih h x0 x1 x2 x3 x4 x5 x6 x7 x8 x9 x10 x11 x12 hf
set_option maxHeartbeats 4000000 in
set_option maxRecDepth 100000 in
theorem t_b_L_ahead_410 {K : Cx} {out : (Int32 × MH)} (O : Ok K yL_ahead.cls cL_ahead 14 (rmm 7 171 4 148)) (Z : Out K (some .boolean) true (some (.int out.1)) out.2) (rec27 : MH → Nat → Int32 → Int32 → Nat → Nat → Nat → Nat → Nat → Nat → Nat → Int32 → Option (Int32 × MH)) (hr27 : ∀ (h : MH) (x0 : Nat) (x1 : Int32) (x2 : Int32) (x3 : Nat) (x4 : Nat) (x5 : Nat) (x6 : Nat) (x7 : Nat) (x8 : Nat) (x9 : Nat) (x10 : Int32), rec27 h x0 x1 x2 x3 x4 x5 x6 x7 x8 x9 x10 = some out → EE K (true, 4, 148) 27 [some (.ref x0), some (.int x1), some (.int x2), some (.ref x3), some (.ref x4), some (.ref x5), some (.ref x6), some (.ref x7), some (.ref x8), some (.ref x9), some (.int x10), none, none, none] [] h) (h : MH) (x0 : Nat) (x1 : Int32) (x2 : Int32) (x3 : Nat) (x4 : Nat) (x5 : Nat) (x6 : Nat) (x7 : Nat) (x8 : Nat) (x9 : Nat) (x10 : Int32) (hf : b_L_ahead_410 rec27 h x0 x1 x2 x3 x4 x5 x6 x7 x8 x9 x10 = some out) : EE K (true, 4, 148) 410 [some (.ref x0), some (.int x1), some (.int x2), some (.ref x3), some (.ref x4), some (.ref x5), some (.ref x6), some (.ref x7), some (.ref x8), some (.ref x9), some (.int x10), none, none, none] [] h := by
  unfold b_L_ahead_410 at hf
  refine E_iconst (pc := 410) O (0 : Int32) dL_ahead_410 (by decide) ?_
  refine E_istore (pc := 411) O [some (.ref x0), some (.int x1), some (.int x2), some (.ref x3), some (.ref x4), some (.ref x5), some (.ref x6), some (.ref x7), some (.ref x8), some (.ref x9), some (.int x10), some (.int (0 : Int32)), none, none] dL_ahead_411 (by decide) rfl rfl ?_
  refine E_iconst (pc := 413) O (0 : Int32) dL_ahead_413 (by decide) ?_
  refine E_istore (pc := 414) O [some (.ref x0), some (.int x1), some (.int x2), some (.ref x3), some (.ref x4), some (.ref x5), some (.ref x6), some (.ref x7), some (.ref x8), some (.ref x9), some (.int x10), some (.int (0 : Int32)), some (.int (0 : Int32)), none] dL_ahead_414 (by decide) rfl rfl ?_
  exact t_f_L_ahead_416 O Z _ hr27 FU h x0 x1 x2 x3 x4 x5 x6 x7 x8 x9 x10 (0 : Int32) (0 : Int32) hf
set_option maxHeartbeats 4000000 in
set_option maxRecDepth 100000 in
theorem t_b_L_ahead_384 {K : Cx} {out : (Int32 × MH)} (O : Ok K yL_ahead.cls cL_ahead 14 (rmm 7 171 4 148)) (Z : Out K (some .boolean) true (some (.int out.1)) out.2) (rec27 : MH → Nat → Int32 → Int32 → Nat → Nat → Nat → Nat → Nat → Nat → Nat → Int32 → Option (Int32 × MH)) (hr27 : ∀ (h : MH) (x0 : Nat) (x1 : Int32) (x2 : Int32) (x3 : Nat) (x4 : Nat) (x5 : Nat) (x6 : Nat) (x7 : Nat) (x8 : Nat) (x9 : Nat) (x10 : Int32), rec27 h x0 x1 x2 x3 x4 x5 x6 x7 x8 x9 x10 = some out → EE K (true, 4, 148) 27 [some (.ref x0), some (.int x1), some (.int x2), some (.ref x3), some (.ref x4), some (.ref x5), some (.ref x6), some (.ref x7), some (.ref x8), some (.ref x9), some (.int x10), none, none, none] [] h) (rec384 : MH → Nat → Int32 → Int32 → Nat → Nat → Nat → Nat → Nat → Nat → Nat → Int32 → Int32 → Option (Int32 × MH)) (hr384 : ∀ (h : MH) (x0 : Nat) (x1 : Int32) (x2 : Int32) (x3 : Nat) (x4 : Nat) (x5 : Nat) (x6 : Nat) (x7 : Nat) (x8 : Nat) (x9 : Nat) (x10 : Int32) (x11 : Int32), rec384 h x0 x1 x2 x3 x4 x5 x6 x7 x8 x9 x10 x11 = some out → EE K (true, 4, 148) 384 [some (.ref x0), some (.int x1), some (.int x2), some (.ref x3), some (.ref x4), some (.ref x5), some (.ref x6), some (.ref x7), some (.ref x8), some (.ref x9), some (.int x10), some (.int x11), none, none] [] h) (h : MH) (x0 : Nat) (x1 : Int32) (x2 : Int32) (x3 : Nat) (x4 : Nat) (x5 : Nat) (x6 : Nat) (x7 : Nat) (x8 : Nat) (x9 : Nat) (x10 : Int32) (x11 : Int32) (hf : b_L_ahead_384 rec27 rec384 h x0 x1 x2 x3 x4 x5 x6 x7 x8 x9 x10 x11 = some out) : EE K (true, 4, 148) 384 [some (.ref x0), some (.int x1), some (.int x2), some (.ref x3), some (.ref x4), some (.ref x5), some (.ref x6), some (.ref x7), some (.ref x8), some (.ref x9), some (.int x10), some (.int x11), none, none] [] h := by
  unfold b_L_ahead_384 at hf
  refine E_iload (pc := 384) O dL_ahead_384 rfl ?_
  refine E_aload (pc := 386) O dL_ahead_386 rfl ?_
  refine E_iconst (pc := 388) O (0 : Int32) dL_ahead_388 (by decide) ?_
  refine E_iaload (pc := 389) O dL_ahead_389 hf (fun v10 hf => ?_)
  refine E_icmp_ge (pc := 390) O 410 dL_ahead_390 (by decide) hf (fun hf => ?_) (fun hf => ?_)
  · exact E_sub (L' := [some (.ref x0), some (.int x1), some (.int x2), some (.ref x3), some (.ref x4), some (.ref x5), some (.ref x6), some (.ref x7), some (.ref x8), some (.ref x9), some (.int x10), none, none, none]) (And.intro rfl (And.intro rfl (And.intro rfl (And.intro rfl (And.intro rfl (And.intro rfl (And.intro rfl (And.intro rfl (And.intro rfl (And.intro rfl (And.intro rfl True.intro))))))))))) (t_b_L_ahead_410 O Z _ hr27 h x0 x1 x2 x3 x4 x5 x6 x7 x8 x9 x10 hf)
  · refine E_aload (pc := 393) O dL_ahead_393 rfl ?_
    refine E_bipush (pc := 395) O (9 : Int32) dL_ahead_395 (by decide) ?_
    refine E_iload (pc := 397) O dL_ahead_397 rfl ?_
    refine E_imul (pc := 399) O dL_ahead_399 ?_
    refine E_iconst (pc := 400) O (1 : Int32) dL_ahead_400 (by decide) ?_
    refine E_iadd (pc := 401) O dL_ahead_401 ?_
    refine E_iconst (pc := 402) O (0 : Int32) dL_ahead_402 (by decide) ?_
    refine E_iastore (pc := 403) O dL_ahead_403 hf (fun h11 hf => ?_)
    refine E_iinc (pc := 404) O (1 : Int32) [some (.ref x0), some (.int x1), some (.int x2), some (.ref x3), some (.ref x4), some (.ref x5), some (.ref x6), some (.ref x7), some (.ref x8), some (.ref x9), some (.int x10), some (.int (x11 + (1 : Int32))), none, none] dL_ahead_404 rfl (by decide) rfl (by decide) rfl ?_
    refine E_goto (pc := 407) O 384 dL_ahead_407 (by decide) ?_
    exact hr384 h11 x0 x1 x2 x3 x4 x5 x6 x7 x8 x9 x10 (x11 + (1 : Int32)) hf
theorem t_f_L_ahead_384 {K : Cx} {out : (Int32 × MH)} (O : Ok K yL_ahead.cls cL_ahead 14 (rmm 7 171 4 148)) (Z : Out K (some .boolean) true (some (.int out.1)) out.2) (rec27 : MH → Nat → Int32 → Int32 → Nat → Nat → Nat → Nat → Nat → Nat → Nat → Int32 → Option (Int32 × MH)) (hr27 : ∀ (h : MH) (x0 : Nat) (x1 : Int32) (x2 : Int32) (x3 : Nat) (x4 : Nat) (x5 : Nat) (x6 : Nat) (x7 : Nat) (x8 : Nat) (x9 : Nat) (x10 : Int32), rec27 h x0 x1 x2 x3 x4 x5 x6 x7 x8 x9 x10 = some out → EE K (true, 4, 148) 27 [some (.ref x0), some (.int x1), some (.int x2), some (.ref x3), some (.ref x4), some (.ref x5), some (.ref x6), some (.ref x7), some (.ref x8), some (.ref x9), some (.int x10), none, none, none] [] h) : ∀ (n : Nat) (h : MH) (x0 : Nat) (x1 : Int32) (x2 : Int32) (x3 : Nat) (x4 : Nat) (x5 : Nat) (x6 : Nat) (x7 : Nat) (x8 : Nat) (x9 : Nat) (x10 : Int32) (x11 : Int32), f_L_ahead_384 rec27 n h x0 x1 x2 x3 x4 x5 x6 x7 x8 x9 x10 x11 = some out → EE K (true, 4, 148) 384 [some (.ref x0), some (.int x1), some (.int x2), some (.ref x3), some (.ref x4), some (.ref x5), some (.ref x6), some (.ref x7), some (.ref x8), some (.ref x9), some (.int x10), some (.int x11), none, none] [] h := by
  intro n
  induction n with
  | zero => intro h x0 x1 x2 x3 x4 x5 x6 x7 x8 x9 x10 x11 hf; cases hf
  | succ n ih => intro h x0 x1 x2 x3 x4 x5 x6 x7 x8 x9 x10 x11 hf; exact t_b_L_ahead_384 O Z _ hr27 _ ih h x0 x1 x2 x3 x4 x5 x6 x7 x8 x9 x10 x11 hf
set_option maxHeartbeats 4000000 in
set_option maxRecDepth 100000 in
theorem t_b_L_ahead_373 {K : Cx} {out : (Int32 × MH)} (O : Ok K yL_ahead.cls cL_ahead 14 (rmm 7 171 4 148)) (Z : Out K (some .boolean) true (some (.int out.1)) out.2) (h : MH) (hf : b_L_ahead_373 h = some out) : EE K (true, 4, 148) 373 [none, none, none, none, none, none, none, none, none, none, none, none, none, none] [] h := by
  unfold b_L_ahead_373 at hf
  refine E_iconst (pc := 373) O (0 : Int32) dL_ahead_373 (by decide) ?_
  exact E_zret (pc := 374) O Z hf ⟨(Nat.le_of_ble_eq_true rfl), (Nat.le_of_ble_eq_true rfl)⟩ dL_ahead_374
set_option maxHeartbeats 4000000 in
set_option maxRecDepth 100000 in
theorem t_b_L_ahead_290 {K : Cx} {out : (Int32 × MH)} (O : Ok K yL_ahead.cls cL_ahead 14 (rmm 7 171 4 148)) (Z : Out K (some .boolean) true (some (.int out.1)) out.2) (rec27 : MH → Nat → Int32 → Int32 → Nat → Nat → Nat → Nat → Nat → Nat → Nat → Int32 → Option (Int32 × MH)) (hr27 : ∀ (h : MH) (x0 : Nat) (x1 : Int32) (x2 : Int32) (x3 : Nat) (x4 : Nat) (x5 : Nat) (x6 : Nat) (x7 : Nat) (x8 : Nat) (x9 : Nat) (x10 : Int32), rec27 h x0 x1 x2 x3 x4 x5 x6 x7 x8 x9 x10 = some out → EE K (true, 4, 148) 27 [some (.ref x0), some (.int x1), some (.int x2), some (.ref x3), some (.ref x4), some (.ref x5), some (.ref x6), some (.ref x7), some (.ref x8), some (.ref x9), some (.int x10), none, none, none] [] h) (rec290 : MH → Nat → Int32 → Int32 → Nat → Nat → Nat → Nat → Nat → Nat → Nat → Int32 → Int32 → Int32 → Int32 → Option (Int32 × MH)) (hr290 : ∀ (h : MH) (x0 : Nat) (x1 : Int32) (x2 : Int32) (x3 : Nat) (x4 : Nat) (x5 : Nat) (x6 : Nat) (x7 : Nat) (x8 : Nat) (x9 : Nat) (x10 : Int32) (x11 : Int32) (x12 : Int32) (x13 : Int32), rec290 h x0 x1 x2 x3 x4 x5 x6 x7 x8 x9 x10 x11 x12 x13 = some out → EE K (true, 4, 148) 290 [some (.ref x0), some (.int x1), some (.int x2), some (.ref x3), some (.ref x4), some (.ref x5), some (.ref x6), some (.ref x7), some (.ref x8), some (.ref x9), some (.int x10), some (.int x11), some (.int x12), some (.int x13)] [] h) (h : MH) (x0 : Nat) (x1 : Int32) (x2 : Int32) (x3 : Nat) (x4 : Nat) (x5 : Nat) (x6 : Nat) (x7 : Nat) (x8 : Nat) (x9 : Nat) (x10 : Int32) (x11 : Int32) (x12 : Int32) (x13 : Int32) (hf : b_L_ahead_290 rec27 rec290 h x0 x1 x2 x3 x4 x5 x6 x7 x8 x9 x10 x11 x12 x13 = some out) : EE K (true, 4, 148) 290 [some (.ref x0), some (.int x1), some (.int x2), some (.ref x3), some (.ref x4), some (.ref x5), some (.ref x6), some (.ref x7), some (.ref x8), some (.ref x9), some (.int x10), some (.int x11), some (.int x12), some (.int x13)] [] h := by
  unfold b_L_ahead_290 at hf
  refine E_iload (pc := 290) O dL_ahead_290 rfl ?_
  refine E_bipush (pc := 292) O (100 : Int32) dL_ahead_292 (by decide) ?_
  refine E_icmp_ge (pc := 294) O 315 dL_ahead_294 (by decide) hf (fun hf => ?_) (fun hf => ?_)
  · refine E_aload_n (pc := 315) O 0 dL_ahead_315 rfl rfl ?_
    refine E_iload (pc := 316) O dL_ahead_316 rfl ?_
    refine E_iload (pc := 318) O dL_ahead_318 rfl ?_
    refine E_iconst (pc := 320) O (0 : Int32) dL_ahead_320 (by decide) ?_
    refine E_callV_i (pc := 321) (S := []) O [.int x11, .int x12, .int (0 : Int32)] CV_RailSequenceLaw_64 rfl (fun r e => t_X3_ifShort e) dL_ahead_321 hf rfl ⟨(Nat.le_of_ble_eq_true rfl), (Nat.le_of_ble_eq_true rfl)⟩ ⟨(Nat.le_of_ble_eq_true rfl), (Nat.le_of_ble_eq_true rfl)⟩ (Nat.le_of_ble_eq_true rfl) (fun p12 hf => ?_)
    refine E_aload (pc := 324) O dL_ahead_324 rfl ?_
    refine E_iconst (pc := 326) O (5 : Int32) dL_ahead_326 (by decide) ?_
    refine E_iaload (pc := 327) O dL_ahead_327 hf (fun v13 hf => ?_)
    refine E_icmp_ne (pc := 328) O 373 dL_ahead_328 (by decide) hf (fun hf => ?_) (fun hf => ?_)
    · exact E_sub (L' := [none, none, none, none, none, none, none, none, none, none, none, none, none, none]) True.intro (t_b_L_ahead_373 O Z p12.2 hf)
    · refine E_aload_n (pc := 331) O 0 dL_ahead_331 rfl rfl ?_
      refine E_iload (pc := 332) O dL_ahead_332 rfl ?_
      refine E_iload (pc := 334) O dL_ahead_334 rfl ?_
      refine E_iconst (pc := 336) O (1 : Int32) dL_ahead_336 (by decide) ?_
      refine E_callV_i (pc := 337) (S := []) O [.int x11, .int x12, .int (1 : Int32)] CV_RailSequenceLaw_64 rfl (fun r e => t_X3_ifShort e) dL_ahead_337 hf rfl ⟨(Nat.le_of_ble_eq_true rfl), (Nat.le_of_ble_eq_true rfl)⟩ ⟨(Nat.le_of_ble_eq_true rfl), (Nat.le_of_ble_eq_true rfl)⟩ (Nat.le_of_ble_eq_true rfl) (fun p14 hf => ?_)
      refine E_iconst (pc := 340) O (2 : Int32) dL_ahead_340 (by decide) ?_
      refine E_iconst (pc := 341) O (3 : Int32) dL_ahead_341 (by decide) ?_
      refine E_aload (pc := 342) O dL_ahead_342 rfl ?_
      refine E_aload (pc := 344) O dL_ahead_344 rfl ?_
      refine E_callS_iP (pc := 346) (S := [.int p14.1]) O [.int (2 : Int32), .int (3 : Int32), .ref x6, .ref x9] CS_RailSequenceLaw_49 (fun r e => t_L_mask e) dL_ahead_346 hf rfl ⟨(Nat.le_of_ble_eq_true rfl), (Nat.le_of_ble_eq_true rfl)⟩ ⟨(Nat.le_of_ble_eq_true rfl), (Nat.le_of_ble_eq_true rfl)⟩ (Nat.le_of_ble_eq_true rfl) (fun v15 hf => ?_)
      refine E_icmp_ne (pc := 349) O 373 dL_ahead_349 (by decide) hf (fun hf => ?_) (fun hf => ?_)
      · exact E_sub (L' := [none, none, none, none, none, none, none, none, none, none, none, none, none, none]) True.intro (t_b_L_ahead_373 O Z p14.2 hf)
      · refine E_aload_n (pc := 352) O 0 dL_ahead_352 rfl rfl ?_
        refine E_iload (pc := 353) O dL_ahead_353 rfl ?_
        refine E_iload (pc := 355) O dL_ahead_355 rfl ?_
        refine E_iconst (pc := 357) O (2 : Int32) dL_ahead_357 (by decide) ?_
        refine E_callV_i (pc := 358) (S := []) O [.int x11, .int x12, .int (2 : Int32)] CV_RailSequenceLaw_64 rfl (fun r e => t_X3_ifShort e) dL_ahead_358 hf rfl ⟨(Nat.le_of_ble_eq_true rfl), (Nat.le_of_ble_eq_true rfl)⟩ ⟨(Nat.le_of_ble_eq_true rfl), (Nat.le_of_ble_eq_true rfl)⟩ (Nat.le_of_ble_eq_true rfl) (fun p16 hf => ?_)
        refine E_iconst (pc := 361) O (2 : Int32) dL_ahead_361 (by decide) ?_
        refine E_iconst (pc := 362) O (5 : Int32) dL_ahead_362 (by decide) ?_
        refine E_aload (pc := 363) O dL_ahead_363 rfl ?_
        refine E_aload (pc := 365) O dL_ahead_365 rfl ?_
        refine E_callS_iP (pc := 367) (S := [.int p16.1]) O [.int (2 : Int32), .int (5 : Int32), .ref x6, .ref x9] CS_RailSequenceLaw_49 (fun r e => t_L_mask e) dL_ahead_367 hf rfl ⟨(Nat.le_of_ble_eq_true rfl), (Nat.le_of_ble_eq_true rfl)⟩ ⟨(Nat.le_of_ble_eq_true rfl), (Nat.le_of_ble_eq_true rfl)⟩ (Nat.le_of_ble_eq_true rfl) (fun v17 hf => ?_)
        refine E_icmp_eq (pc := 370) O 585 dL_ahead_370 (by decide) hf (fun hf => ?_) (fun hf => ?_)
        · exact E_sub (L' := [some (.ref x0), some (.int x1), some (.int x2), some (.ref x3), some (.ref x4), some (.ref x5), some (.ref x6), some (.ref x7), some (.ref x8), some (.ref x9), some (.int x10), none, none, none]) (And.intro rfl (And.intro rfl (And.intro rfl (And.intro rfl (And.intro rfl (And.intro rfl (And.intro rfl (And.intro rfl (And.intro rfl (And.intro rfl (And.intro rfl True.intro))))))))))) (t_b_L_ahead_585 O Z _ hr27 p16.2 x0 x1 x2 x3 x4 x5 x6 x7 x8 x9 x10 hf)
        · exact E_sub (L' := [none, none, none, none, none, none, none, none, none, none, none, none, none, none]) True.intro (t_b_L_ahead_373 O Z p16.2 hf)
  · refine E_aload_n (pc := 297) O 3 dL_ahead_297 rfl rfl ?_
    refine E_aload (pc := 298) O dL_ahead_298 rfl ?_
    refine E_aload (pc := 300) O dL_ahead_300 rfl ?_
    refine E_aload (pc := 302) O dL_ahead_302 rfl ?_
    refine E_aload (pc := 304) O dL_ahead_304 rfl ?_
    refine E_callS_v (pc := 306) (S := []) O [.ref x3, .ref x6, .ref x7, .ref x8, .ref x9] CS_RailSequenceLaw_57 (fun r e => t_L_tick e) dL_ahead_306 hf rfl ⟨(Nat.le_of_ble_eq_true rfl), (Nat.le_of_ble_eq_true rfl)⟩ ⟨(Nat.le_of_ble_eq_true rfl), (Nat.le_of_ble_eq_true rfl)⟩ (Nat.le_of_ble_eq_true rfl) (fun h18 hf => ?_)
    refine E_iinc (pc := 309) O (1 : Int32) [some (.ref x0), some (.int x1), some (.int x2), some (.ref x3), some (.ref x4), some (.ref x5), some (.ref x6), some (.ref x7), some (.ref x8), some (.ref x9), some (.int x10), some (.int x11), some (.int x12), some (.int (x13 + (1 : Int32)))] dL_ahead_309 rfl (by decide) rfl (by decide) rfl ?_
    refine E_goto (pc := 312) O 290 dL_ahead_312 (by decide) ?_
    exact hr290 h18 x0 x1 x2 x3 x4 x5 x6 x7 x8 x9 x10 x11 x12 (x13 + (1 : Int32)) hf
theorem t_f_L_ahead_290 {K : Cx} {out : (Int32 × MH)} (O : Ok K yL_ahead.cls cL_ahead 14 (rmm 7 171 4 148)) (Z : Out K (some .boolean) true (some (.int out.1)) out.2) (rec27 : MH → Nat → Int32 → Int32 → Nat → Nat → Nat → Nat → Nat → Nat → Nat → Int32 → Option (Int32 × MH)) (hr27 : ∀ (h : MH) (x0 : Nat) (x1 : Int32) (x2 : Int32) (x3 : Nat) (x4 : Nat) (x5 : Nat) (x6 : Nat) (x7 : Nat) (x8 : Nat) (x9 : Nat) (x10 : Int32), rec27 h x0 x1 x2 x3 x4 x5 x6 x7 x8 x9 x10 = some out → EE K (true, 4, 148) 27 [some (.ref x0), some (.int x1), some (.int x2), some (.ref x3), some (.ref x4), some (.ref x5), some (.ref x6), some (.ref x7), some (.ref x8), some (.ref x9), some (.int x10), none, none, none] [] h) : ∀ (n : Nat) (h : MH) (x0 : Nat) (x1 : Int32) (x2 : Int32) (x3 : Nat) (x4 : Nat) (x5 : Nat) (x6 : Nat) (x7 : Nat) (x8 : Nat) (x9 : Nat) (x10 : Int32) (x11 : Int32) (x12 : Int32) (x13 : Int32), f_L_ahead_290 rec27 n h x0 x1 x2 x3 x4 x5 x6 x7 x8 x9 x10 x11 x12 x13 = some out → EE K (true, 4, 148) 290 [some (.ref x0), some (.int x1), some (.int x2), some (.ref x3), some (.ref x4), some (.ref x5), some (.ref x6), some (.ref x7), some (.ref x8), some (.ref x9), some (.int x10), some (.int x11), some (.int x12), some (.int x13)] [] h := by
  intro n
  induction n with
  | zero => intro h x0 x1 x2 x3 x4 x5 x6 x7 x8 x9 x10 x11 x12 x13 hf; cases hf
  | succ n ih => intro h x0 x1 x2 x3 x4 x5 x6 x7 x8 x9 x10 x11 x12 x13 hf; exact t_b_L_ahead_290 O Z _ hr27 _ ih h x0 x1 x2 x3 x4 x5 x6 x7 x8 x9 x10 x11 x12 x13 hf
set_option maxHeartbeats 4000000 in
set_option maxRecDepth 100000 in
theorem t_b_L_ahead_264 {K : Cx} {out : (Int32 × MH)} (O : Ok K yL_ahead.cls cL_ahead 14 (rmm 7 171 4 148)) (Z : Out K (some .boolean) true (some (.int out.1)) out.2) (rec27 : MH → Nat → Int32 → Int32 → Nat → Nat → Nat → Nat → Nat → Nat → Nat → Int32 → Option (Int32 × MH)) (hr27 : ∀ (h : MH) (x0 : Nat) (x1 : Int32) (x2 : Int32) (x3 : Nat) (x4 : Nat) (x5 : Nat) (x6 : Nat) (x7 : Nat) (x8 : Nat) (x9 : Nat) (x10 : Int32), rec27 h x0 x1 x2 x3 x4 x5 x6 x7 x8 x9 x10 = some out → EE K (true, 4, 148) 27 [some (.ref x0), some (.int x1), some (.int x2), some (.ref x3), some (.ref x4), some (.ref x5), some (.ref x6), some (.ref x7), some (.ref x8), some (.ref x9), some (.int x10), none, none, none] [] h) (h : MH) (x0 : Nat) (x1 : Int32) (x2 : Int32) (x3 : Nat) (x4 : Nat) (x5 : Nat) (x6 : Nat) (x7 : Nat) (x8 : Nat) (x9 : Nat) (x10 : Int32) (x11 : Int32) (s0 : Int32) (s1 : Int32) (s2 : Int32) (hf : b_L_ahead_264 rec27 h x0 x1 x2 x3 x4 x5 x6 x7 x8 x9 x10 x11 s0 s1 s2 = some out) : EE K (true, 4, 148) 264 [some (.ref x0), some (.int x1), some (.int x2), some (.ref x3), some (.ref x4), some (.ref x5), some (.ref x6), some (.ref x7), some (.ref x8), some (.ref x9), some (.int x10), some (.int x11), none, none] [.int s2, .int s1, .int s0] h := by
  unfold b_L_ahead_264 at hf
  refine E_callS_iP (pc := 264) (S := [.int s0]) O [.int s1, .int s2] CS_RailSequenceLaw_61 (fun r e => t_L_at e) dL_ahead_264 hf rfl ⟨(Nat.le_of_ble_eq_true rfl), (Nat.le_of_ble_eq_true rfl)⟩ ⟨(Nat.le_of_ble_eq_true rfl), (Nat.le_of_ble_eq_true rfl)⟩ (Nat.le_of_ble_eq_true rfl) (fun v19 hf => ?_)
  refine E_iadd (pc := 267) O dL_ahead_267 ?_
  obtain ⟨v20, ev20, hf⟩ := ob hf
  have ev20 := os ev20
  rw [ev20]
  refine E_istore (pc := 268) O [some (.ref x0), some (.int x1), some (.int x2), some (.ref x3), some (.ref x4), some (.ref x5), some (.ref x6), some (.ref x7), some (.ref x8), some (.ref x9), some (.int x10), some (.int x11), some (.int v20), none] dL_ahead_268 (by decide) rfl rfl ?_
  refine E_aload (pc := 270) O dL_ahead_270 rfl ?_
  refine E_bipush (pc := 272) O (9 : Int32) dL_ahead_272 (by decide) ?_
  refine E_iload (pc := 274) O dL_ahead_274 rfl ?_
  refine E_imul (pc := 276) O dL_ahead_276 ?_
  refine E_iconst (pc := 277) O (5 : Int32) dL_ahead_277 (by decide) ?_
  refine E_iadd (pc := 278) O dL_ahead_278 ?_
  refine E_iload (pc := 279) O dL_ahead_279 rfl ?_
  refine E_iastore (pc := 281) O dL_ahead_281 hf (fun h21 hf => ?_)
  refine E_aload (pc := 282) O dL_ahead_282 rfl ?_
  refine E_iconst (pc := 284) O (5 : Int32) dL_ahead_284 (by decide) ?_
  refine E_iconst (pc := 285) O (0 : Int32) dL_ahead_285 (by decide) ?_
  refine E_iastore (pc := 286) O dL_ahead_286 hf (fun h22 hf => ?_)
  refine E_iconst (pc := 287) O (0 : Int32) dL_ahead_287 (by decide) ?_
  refine E_istore (pc := 288) O [some (.ref x0), some (.int x1), some (.int x2), some (.ref x3), some (.ref x4), some (.ref x5), some (.ref x6), some (.ref x7), some (.ref x8), some (.ref x9), some (.int x10), some (.int x11), some (.int v20), some (.int (0 : Int32))] dL_ahead_288 (by decide) rfl rfl ?_
  exact t_f_L_ahead_290 O Z _ hr27 FU h22 x0 x1 x2 x3 x4 x5 x6 x7 x8 x9 x10 x11 v20 (0 : Int32) hf
set_option maxHeartbeats 4000000 in
set_option maxRecDepth 100000 in
theorem t_b_L_ahead_199 {K : Cx} {out : (Int32 × MH)} (O : Ok K yL_ahead.cls cL_ahead 14 (rmm 7 171 4 148)) (Z : Out K (some .boolean) true (some (.int out.1)) out.2) (rec27 : MH → Nat → Int32 → Int32 → Nat → Nat → Nat → Nat → Nat → Nat → Nat → Int32 → Option (Int32 × MH)) (hr27 : ∀ (h : MH) (x0 : Nat) (x1 : Int32) (x2 : Int32) (x3 : Nat) (x4 : Nat) (x5 : Nat) (x6 : Nat) (x7 : Nat) (x8 : Nat) (x9 : Nat) (x10 : Int32), rec27 h x0 x1 x2 x3 x4 x5 x6 x7 x8 x9 x10 = some out → EE K (true, 4, 148) 27 [some (.ref x0), some (.int x1), some (.int x2), some (.ref x3), some (.ref x4), some (.ref x5), some (.ref x6), some (.ref x7), some (.ref x8), some (.ref x9), some (.int x10), none, none, none] [] h) (rec109 : MH → Nat → Int32 → Int32 → Nat → Nat → Nat → Nat → Nat → Nat → Nat → Int32 → Int32 → Int32 → Option (Int32 × MH)) (hr109 : ∀ (h : MH) (x0 : Nat) (x1 : Int32) (x2 : Int32) (x3 : Nat) (x4 : Nat) (x5 : Nat) (x6 : Nat) (x7 : Nat) (x8 : Nat) (x9 : Nat) (x10 : Int32) (x11 : Int32) (x12 : Int32), rec109 h x0 x1 x2 x3 x4 x5 x6 x7 x8 x9 x10 x11 x12 = some out → EE K (true, 4, 148) 109 [some (.ref x0), some (.int x1), some (.int x2), some (.ref x3), some (.ref x4), some (.ref x5), some (.ref x6), some (.ref x7), some (.ref x8), some (.ref x9), some (.int x10), some (.int x11), some (.int x12), none] [] h) (h : MH) (x0 : Nat) (x1 : Int32) (x2 : Int32) (x3 : Nat) (x4 : Nat) (x5 : Nat) (x6 : Nat) (x7 : Nat) (x8 : Nat) (x9 : Nat) (x10 : Int32) (x12 : Int32) (s0 : Int32) (hf : b_L_ahead_199 rec27 rec109 h x0 x1 x2 x3 x4 x5 x6 x7 x8 x9 x10 x12 s0 = some out) : EE K (true, 4, 148) 199 [some (.ref x0), some (.int x1), some (.int x2), some (.ref x3), some (.ref x4), some (.ref x5), some (.ref x6), some (.ref x7), some (.ref x8), some (.ref x9), some (.int x10), none, some (.int x12), none] [.int s0] h := by
  unfold b_L_ahead_199 at hf
  refine E_istore (pc := 199) O [some (.ref x0), some (.int x1), some (.int x2), some (.ref x3), some (.ref x4), some (.ref x5), some (.ref x6), some (.ref x7), some (.ref x8), some (.ref x9), some (.int x10), some (.int s0), some (.int x12), none] dL_ahead_199 (by decide) rfl rfl ?_
  refine E_iinc (pc := 201) O (1 : Int32) [some (.ref x0), some (.int x1), some (.int x2), some (.ref x3), some (.ref x4), some (.ref x5), some (.ref x6), some (.ref x7), some (.ref x8), some (.ref x9), some (.int x10), some (.int s0), some (.int (x12 + (1 : Int32))), none] dL_ahead_201 rfl (by decide) rfl (by decide) rfl ?_
  refine E_goto (pc := 204) O 109 dL_ahead_204 (by decide) ?_
  exact hr109 h x0 x1 x2 x3 x4 x5 x6 x7 x8 x9 x10 s0 (x12 + (1 : Int32)) hf
set_option maxHeartbeats 4000000 in
set_option maxRecDepth 100000 in
theorem t_b_L_ahead_198 {K : Cx} {out : (Int32 × MH)} (O : Ok K yL_ahead.cls cL_ahead 14 (rmm 7 171 4 148)) (Z : Out K (some .boolean) true (some (.int out.1)) out.2) (rec27 : MH → Nat → Int32 → Int32 → Nat → Nat → Nat → Nat → Nat → Nat → Nat → Int32 → Option (Int32 × MH)) (hr27 : ∀ (h : MH) (x0 : Nat) (x1 : Int32) (x2 : Int32) (x3 : Nat) (x4 : Nat) (x5 : Nat) (x6 : Nat) (x7 : Nat) (x8 : Nat) (x9 : Nat) (x10 : Int32), rec27 h x0 x1 x2 x3 x4 x5 x6 x7 x8 x9 x10 = some out → EE K (true, 4, 148) 27 [some (.ref x0), some (.int x1), some (.int x2), some (.ref x3), some (.ref x4), some (.ref x5), some (.ref x6), some (.ref x7), some (.ref x8), some (.ref x9), some (.int x10), none, none, none] [] h) (rec109 : MH → Nat → Int32 → Int32 → Nat → Nat → Nat → Nat → Nat → Nat → Nat → Int32 → Int32 → Int32 → Option (Int32 × MH)) (hr109 : ∀ (h : MH) (x0 : Nat) (x1 : Int32) (x2 : Int32) (x3 : Nat) (x4 : Nat) (x5 : Nat) (x6 : Nat) (x7 : Nat) (x8 : Nat) (x9 : Nat) (x10 : Int32) (x11 : Int32) (x12 : Int32), rec109 h x0 x1 x2 x3 x4 x5 x6 x7 x8 x9 x10 x11 x12 = some out → EE K (true, 4, 148) 109 [some (.ref x0), some (.int x1), some (.int x2), some (.ref x3), some (.ref x4), some (.ref x5), some (.ref x6), some (.ref x7), some (.ref x8), some (.ref x9), some (.int x10), some (.int x11), some (.int x12), none] [] h) (h : MH) (x0 : Nat) (x1 : Int32) (x2 : Int32) (x3 : Nat) (x4 : Nat) (x5 : Nat) (x6 : Nat) (x7 : Nat) (x8 : Nat) (x9 : Nat) (x10 : Int32) (x12 : Int32) (hf : b_L_ahead_198 rec27 rec109 h x0 x1 x2 x3 x4 x5 x6 x7 x8 x9 x10 x12 = some out) : EE K (true, 4, 148) 198 [some (.ref x0), some (.int x1), some (.int x2), some (.ref x3), some (.ref x4), some (.ref x5), some (.ref x6), some (.ref x7), some (.ref x8), some (.ref x9), some (.int x10), none, some (.int x12), none] [] h := by
  unfold b_L_ahead_198 at hf
  refine E_iconst (pc := 198) O (0 : Int32) dL_ahead_198 (by decide) ?_
  exact t_b_L_ahead_199 O Z _ hr27 _ hr109 h x0 x1 x2 x3 x4 x5 x6 x7 x8 x9 x10 x12 (0 : Int32) hf
set_option maxHeartbeats 4000000 in
set_option maxRecDepth 100000 in
theorem t_b_L_ahead_223 {K : Cx} {out : (Int32 × MH)} (O : Ok K yL_ahead.cls cL_ahead 14 (rmm 7 171 4 148)) (Z : Out K (some .boolean) true (some (.int out.1)) out.2) (rec27 : MH → Nat → Int32 → Int32 → Nat → Nat → Nat → Nat → Nat → Nat → Nat → Int32 → Option (Int32 × MH)) (hr27 : ∀ (h : MH) (x0 : Nat) (x1 : Int32) (x2 : Int32) (x3 : Nat) (x4 : Nat) (x5 : Nat) (x6 : Nat) (x7 : Nat) (x8 : Nat) (x9 : Nat) (x10 : Int32), rec27 h x0 x1 x2 x3 x4 x5 x6 x7 x8 x9 x10 = some out → EE K (true, 4, 148) 27 [some (.ref x0), some (.int x1), some (.int x2), some (.ref x3), some (.ref x4), some (.ref x5), some (.ref x6), some (.ref x7), some (.ref x8), some (.ref x9), some (.int x10), none, none, none] [] h) (h : MH) (x0 : Nat) (x1 : Int32) (x2 : Int32) (x3 : Nat) (x4 : Nat) (x5 : Nat) (x6 : Nat) (x7 : Nat) (x8 : Nat) (x9 : Nat) (x10 : Int32) (s0 : Int32) (s1 : Int32) (hf : b_L_ahead_223 rec27 h x0 x1 x2 x3 x4 x5 x6 x7 x8 x9 x10 s0 s1 = some out) : EE K (true, 4, 148) 223 [some (.ref x0), some (.int x1), some (.int x2), some (.ref x3), some (.ref x4), some (.ref x5), some (.ref x6), some (.ref x7), some (.ref x8), some (.ref x9), some (.int x10), none, none, none] [.int s1, .int s0] h := by
  unfold b_L_ahead_223 at hf
  refine E_icmp_eq (pc := 223) O 585 dL_ahead_223 (by decide) hf (fun hf => ?_) (fun hf => ?_)
  · exact t_b_L_ahead_585 O Z _ hr27 h x0 x1 x2 x3 x4 x5 x6 x7 x8 x9 x10 hf
  · refine E_iconst (pc := 226) O (0 : Int32) dL_ahead_226 (by decide) ?_
    exact E_zret (pc := 227) O Z hf ⟨(Nat.le_of_ble_eq_true rfl), (Nat.le_of_ble_eq_true rfl)⟩ dL_ahead_227
set_option maxHeartbeats 4000000 in
set_option maxRecDepth 100000 in
theorem t_b_L_ahead_109 {K : Cx} {out : (Int32 × MH)} (O : Ok K yL_ahead.cls cL_ahead 14 (rmm 7 171 4 148)) (Z : Out K (some .boolean) true (some (.int out.1)) out.2) (rec27 : MH → Nat → Int32 → Int32 → Nat → Nat → Nat → Nat → Nat → Nat → Nat → Int32 → Option (Int32 × MH)) (hr27 : ∀ (h : MH) (x0 : Nat) (x1 : Int32) (x2 : Int32) (x3 : Nat) (x4 : Nat) (x5 : Nat) (x6 : Nat) (x7 : Nat) (x8 : Nat) (x9 : Nat) (x10 : Int32), rec27 h x0 x1 x2 x3 x4 x5 x6 x7 x8 x9 x10 = some out → EE K (true, 4, 148) 27 [some (.ref x0), some (.int x1), some (.int x2), some (.ref x3), some (.ref x4), some (.ref x5), some (.ref x6), some (.ref x7), some (.ref x8), some (.ref x9), some (.int x10), none, none, none] [] h) (rec109 : MH → Nat → Int32 → Int32 → Nat → Nat → Nat → Nat → Nat → Nat → Nat → Int32 → Int32 → Int32 → Option (Int32 × MH)) (hr109 : ∀ (h : MH) (x0 : Nat) (x1 : Int32) (x2 : Int32) (x3 : Nat) (x4 : Nat) (x5 : Nat) (x6 : Nat) (x7 : Nat) (x8 : Nat) (x9 : Nat) (x10 : Int32) (x11 : Int32) (x12 : Int32), rec109 h x0 x1 x2 x3 x4 x5 x6 x7 x8 x9 x10 x11 x12 = some out → EE K (true, 4, 148) 109 [some (.ref x0), some (.int x1), some (.int x2), some (.ref x3), some (.ref x4), some (.ref x5), some (.ref x6), some (.ref x7), some (.ref x8), some (.ref x9), some (.int x10), some (.int x11), some (.int x12), none] [] h) (h : MH) (x0 : Nat) (x1 : Int32) (x2 : Int32) (x3 : Nat) (x4 : Nat) (x5 : Nat) (x6 : Nat) (x7 : Nat) (x8 : Nat) (x9 : Nat) (x10 : Int32) (x11 : Int32) (x12 : Int32) (hf : b_L_ahead_109 rec27 rec109 h x0 x1 x2 x3 x4 x5 x6 x7 x8 x9 x10 x11 x12 = some out) : EE K (true, 4, 148) 109 [some (.ref x0), some (.int x1), some (.int x2), some (.ref x3), some (.ref x4), some (.ref x5), some (.ref x6), some (.ref x7), some (.ref x8), some (.ref x9), some (.int x10), some (.int x11), some (.int x12), none] [] h := by
  unfold b_L_ahead_109 at hf
  refine E_iload (pc := 109) O dL_ahead_109 rfl ?_
  refine E_aload (pc := 111) O dL_ahead_111 rfl ?_
  refine E_iconst (pc := 113) O (0 : Int32) dL_ahead_113 (by decide) ?_
  refine E_iaload (pc := 114) O dL_ahead_114 hf (fun v23 hf => ?_)
  refine E_icmp_ge (pc := 115) O 207 dL_ahead_115 (by decide) hf (fun hf => ?_) (fun hf => ?_)
  · refine E_aload_n (pc := 207) O 0 dL_ahead_207 rfl rfl ?_
    refine E_bipush (pc := 208) O (9 : Int32) dL_ahead_208 (by decide) ?_
    refine E_callV_i (pc := 210) (S := []) O [.int (9 : Int32)] CV_RailSequenceLaw_46 rfl (fun r e => t_X3_count e) dL_ahead_210 hf rfl ⟨(Nat.le_of_ble_eq_true rfl), (Nat.le_of_ble_eq_true rfl)⟩ ⟨(Nat.le_of_ble_eq_true rfl), (Nat.le_of_ble_eq_true rfl)⟩ (Nat.le_of_ble_eq_true rfl) (fun p24 hf => ?_)
    refine E_iload (pc := 213) O dL_ahead_213 rfl ?_
    refine E_if_eq (pc := 215) O 222 dL_ahead_215 (by decide) hf (fun hf => ?_) (fun hf => ?_)
    · refine E_iconst (pc := 222) O (0 : Int32) dL_ahead_222 (by decide) ?_
      exact E_sub (L' := [some (.ref x0), some (.int x1), some (.int x2), some (.ref x3), some (.ref x4), some (.ref x5), some (.ref x6), some (.ref x7), some (.ref x8), some (.ref x9), some (.int x10), none, none, none]) (And.intro rfl (And.intro rfl (And.intro rfl (And.intro rfl (And.intro rfl (And.intro rfl (And.intro rfl (And.intro rfl (And.intro rfl (And.intro rfl (And.intro rfl True.intro))))))))))) (t_b_L_ahead_223 O Z _ hr27 p24.2 x0 x1 x2 x3 x4 x5 x6 x7 x8 x9 x10 p24.1 (0 : Int32) hf)
    · refine E_iconst (pc := 218) O (1 : Int32) dL_ahead_218 (by decide) ?_
      refine E_goto (pc := 219) O 223 dL_ahead_219 (by decide) ?_
      exact E_sub (L' := [some (.ref x0), some (.int x1), some (.int x2), some (.ref x3), some (.ref x4), some (.ref x5), some (.ref x6), some (.ref x7), some (.ref x8), some (.ref x9), some (.int x10), none, none, none]) (And.intro rfl (And.intro rfl (And.intro rfl (And.intro rfl (And.intro rfl (And.intro rfl (And.intro rfl (And.intro rfl (And.intro rfl (And.intro rfl (And.intro rfl True.intro))))))))))) (t_b_L_ahead_223 O Z _ hr27 p24.2 x0 x1 x2 x3 x4 x5 x6 x7 x8 x9 x10 p24.1 (1 : Int32) hf)
  · refine E_iload (pc := 118) O dL_ahead_118 rfl ?_
    refine E_if_eq (pc := 120) O 198 dL_ahead_120 (by decide) hf (fun hf => ?_) (fun hf => ?_)
    · exact E_sub (L' := [some (.ref x0), some (.int x1), some (.int x2), some (.ref x3), some (.ref x4), some (.ref x5), some (.ref x6), some (.ref x7), some (.ref x8), some (.ref x9), some (.int x10), none, some (.int x12), none]) (And.intro rfl (And.intro rfl (And.intro rfl (And.intro rfl (And.intro rfl (And.intro rfl (And.intro rfl (And.intro rfl (And.intro rfl (And.intro rfl (And.intro rfl (And.intro rfl True.intro)))))))))))) (t_b_L_ahead_198 O Z _ hr27 _ hr109 h x0 x1 x2 x3 x4 x5 x6 x7 x8 x9 x10 x12 hf)
    · refine E_aload (pc := 123) O dL_ahead_123 rfl ?_
      refine E_bipush (pc := 125) O (9 : Int32) dL_ahead_125 (by decide) ?_
      refine E_iload (pc := 127) O dL_ahead_127 rfl ?_
      refine E_imul (pc := 129) O dL_ahead_129 ?_
      refine E_iconst (pc := 130) O (2 : Int32) dL_ahead_130 (by decide) ?_
      refine E_iadd (pc := 131) O dL_ahead_131 ?_
      refine E_iaload (pc := 132) O dL_ahead_132 hf (fun v25 hf => ?_)
      refine E_aload (pc := 133) O dL_ahead_133 rfl ?_
      refine E_bipush (pc := 135) O (9 : Int32) dL_ahead_135 (by decide) ?_
      refine E_iload (pc := 137) O dL_ahead_137 rfl ?_
      refine E_imul (pc := 139) O dL_ahead_139 ?_
      refine E_iconst (pc := 140) O (2 : Int32) dL_ahead_140 (by decide) ?_
      refine E_iadd (pc := 141) O dL_ahead_141 ?_
      refine E_iaload (pc := 142) O dL_ahead_142 hf (fun v26 hf => ?_)
      refine E_icmp_ne (pc := 143) O 198 dL_ahead_143 (by decide) hf (fun hf => ?_) (fun hf => ?_)
      · exact E_sub (L' := [some (.ref x0), some (.int x1), some (.int x2), some (.ref x3), some (.ref x4), some (.ref x5), some (.ref x6), some (.ref x7), some (.ref x8), some (.ref x9), some (.int x10), none, some (.int x12), none]) (And.intro rfl (And.intro rfl (And.intro rfl (And.intro rfl (And.intro rfl (And.intro rfl (And.intro rfl (And.intro rfl (And.intro rfl (And.intro rfl (And.intro rfl (And.intro rfl True.intro)))))))))))) (t_b_L_ahead_198 O Z _ hr27 _ hr109 h x0 x1 x2 x3 x4 x5 x6 x7 x8 x9 x10 x12 hf)
      · refine E_aload (pc := 146) O dL_ahead_146 rfl ?_
        refine E_bipush (pc := 148) O (9 : Int32) dL_ahead_148 (by decide) ?_
        refine E_iload (pc := 150) O dL_ahead_150 rfl ?_
        refine E_imul (pc := 152) O dL_ahead_152 ?_
        refine E_iconst (pc := 153) O (3 : Int32) dL_ahead_153 (by decide) ?_
        refine E_iadd (pc := 154) O dL_ahead_154 ?_
        refine E_iaload (pc := 155) O dL_ahead_155 hf (fun v27 hf => ?_)
        refine E_aload (pc := 156) O dL_ahead_156 rfl ?_
        refine E_bipush (pc := 158) O (9 : Int32) dL_ahead_158 (by decide) ?_
        refine E_iload (pc := 160) O dL_ahead_160 rfl ?_
        refine E_imul (pc := 162) O dL_ahead_162 ?_
        refine E_iconst (pc := 163) O (3 : Int32) dL_ahead_163 (by decide) ?_
        refine E_iadd (pc := 164) O dL_ahead_164 ?_
        refine E_iaload (pc := 165) O dL_ahead_165 hf (fun v28 hf => ?_)
        refine E_icmp_ne (pc := 166) O 198 dL_ahead_166 (by decide) hf (fun hf => ?_) (fun hf => ?_)
        · exact E_sub (L' := [some (.ref x0), some (.int x1), some (.int x2), some (.ref x3), some (.ref x4), some (.ref x5), some (.ref x6), some (.ref x7), some (.ref x8), some (.ref x9), some (.int x10), none, some (.int x12), none]) (And.intro rfl (And.intro rfl (And.intro rfl (And.intro rfl (And.intro rfl (And.intro rfl (And.intro rfl (And.intro rfl (And.intro rfl (And.intro rfl (And.intro rfl (And.intro rfl True.intro)))))))))))) (t_b_L_ahead_198 O Z _ hr27 _ hr109 h x0 x1 x2 x3 x4 x5 x6 x7 x8 x9 x10 x12 hf)
        · refine E_aload (pc := 169) O dL_ahead_169 rfl ?_
          refine E_bipush (pc := 171) O (9 : Int32) dL_ahead_171 (by decide) ?_
          refine E_iload (pc := 173) O dL_ahead_173 rfl ?_
          refine E_imul (pc := 175) O dL_ahead_175 ?_
          refine E_bipush (pc := 176) O (6 : Int32) dL_ahead_176 (by decide) ?_
          refine E_iadd (pc := 178) O dL_ahead_178 ?_
          refine E_iaload (pc := 179) O dL_ahead_179 hf (fun v29 hf => ?_)
          refine E_aload (pc := 180) O dL_ahead_180 rfl ?_
          refine E_bipush (pc := 182) O (9 : Int32) dL_ahead_182 (by decide) ?_
          refine E_iload (pc := 184) O dL_ahead_184 rfl ?_
          refine E_imul (pc := 186) O dL_ahead_186 ?_
          refine E_bipush (pc := 187) O (6 : Int32) dL_ahead_187 (by decide) ?_
          refine E_iadd (pc := 189) O dL_ahead_189 ?_
          refine E_iaload (pc := 190) O dL_ahead_190 hf (fun v30 hf => ?_)
          refine E_icmp_ne (pc := 191) O 198 dL_ahead_191 (by decide) hf (fun hf => ?_) (fun hf => ?_)
          · exact E_sub (L' := [some (.ref x0), some (.int x1), some (.int x2), some (.ref x3), some (.ref x4), some (.ref x5), some (.ref x6), some (.ref x7), some (.ref x8), some (.ref x9), some (.int x10), none, some (.int x12), none]) (And.intro rfl (And.intro rfl (And.intro rfl (And.intro rfl (And.intro rfl (And.intro rfl (And.intro rfl (And.intro rfl (And.intro rfl (And.intro rfl (And.intro rfl (And.intro rfl True.intro)))))))))))) (t_b_L_ahead_198 O Z _ hr27 _ hr109 h x0 x1 x2 x3 x4 x5 x6 x7 x8 x9 x10 x12 hf)
          · refine E_iconst (pc := 194) O (1 : Int32) dL_ahead_194 (by decide) ?_
            refine E_goto (pc := 195) O 199 dL_ahead_195 (by decide) ?_
            exact E_sub (L' := [some (.ref x0), some (.int x1), some (.int x2), some (.ref x3), some (.ref x4), some (.ref x5), some (.ref x6), some (.ref x7), some (.ref x8), some (.ref x9), some (.int x10), none, some (.int x12), none]) (And.intro rfl (And.intro rfl (And.intro rfl (And.intro rfl (And.intro rfl (And.intro rfl (And.intro rfl (And.intro rfl (And.intro rfl (And.intro rfl (And.intro rfl (And.intro rfl True.intro)))))))))))) (t_b_L_ahead_199 O Z _ hr27 _ hr109 h x0 x1 x2 x3 x4 x5 x6 x7 x8 x9 x10 x12 (1 : Int32) hf)
theorem t_f_L_ahead_109 {K : Cx} {out : (Int32 × MH)} (O : Ok K yL_ahead.cls cL_ahead 14 (rmm 7 171 4 148)) (Z : Out K (some .boolean) true (some (.int out.1)) out.2) (rec27 : MH → Nat → Int32 → Int32 → Nat → Nat → Nat → Nat → Nat → Nat → Nat → Int32 → Option (Int32 × MH)) (hr27 : ∀ (h : MH) (x0 : Nat) (x1 : Int32) (x2 : Int32) (x3 : Nat) (x4 : Nat) (x5 : Nat) (x6 : Nat) (x7 : Nat) (x8 : Nat) (x9 : Nat) (x10 : Int32), rec27 h x0 x1 x2 x3 x4 x5 x6 x7 x8 x9 x10 = some out → EE K (true, 4, 148) 27 [some (.ref x0), some (.int x1), some (.int x2), some (.ref x3), some (.ref x4), some (.ref x5), some (.ref x6), some (.ref x7), some (.ref x8), some (.ref x9), some (.int x10), none, none, none] [] h) : ∀ (n : Nat) (h : MH) (x0 : Nat) (x1 : Int32) (x2 : Int32) (x3 : Nat) (x4 : Nat) (x5 : Nat) (x6 : Nat) (x7 : Nat) (x8 : Nat) (x9 : Nat) (x10 : Int32) (x11 : Int32) (x12 : Int32), f_L_ahead_109 rec27 n h x0 x1 x2 x3 x4 x5 x6 x7 x8 x9 x10 x11 x12 = some out → EE K (true, 4, 148) 109 [some (.ref x0), some (.int x1), some (.int x2), some (.ref x3), some (.ref x4), some (.ref x5), some (.ref x6), some (.ref x7), some (.ref x8), some (.ref x9), some (.int x10), some (.int x11), some (.int x12), none] [] h := by
  intro n
  induction n with
  | zero => intro h x0 x1 x2 x3 x4 x5 x6 x7 x8 x9 x10 x11 x12 hf; cases hf
  | succ n ih => intro h x0 x1 x2 x3 x4 x5 x6 x7 x8 x9 x10 x11 x12 hf; exact t_b_L_ahead_109 O Z _ hr27 _ ih h x0 x1 x2 x3 x4 x5 x6 x7 x8 x9 x10 x11 x12 hf
set_option maxHeartbeats 4000000 in
set_option maxRecDepth 100000 in
theorem t_b_L_ahead_62 {K : Cx} {out : (Int32 × MH)} (O : Ok K yL_ahead.cls cL_ahead 14 (rmm 7 171 4 148)) (Z : Out K (some .boolean) true (some (.int out.1)) out.2) (rec27 : MH → Nat → Int32 → Int32 → Nat → Nat → Nat → Nat → Nat → Nat → Nat → Int32 → Option (Int32 × MH)) (hr27 : ∀ (h : MH) (x0 : Nat) (x1 : Int32) (x2 : Int32) (x3 : Nat) (x4 : Nat) (x5 : Nat) (x6 : Nat) (x7 : Nat) (x8 : Nat) (x9 : Nat) (x10 : Int32), rec27 h x0 x1 x2 x3 x4 x5 x6 x7 x8 x9 x10 = some out → EE K (true, 4, 148) 27 [some (.ref x0), some (.int x1), some (.int x2), some (.ref x3), some (.ref x4), some (.ref x5), some (.ref x6), some (.ref x7), some (.ref x8), some (.ref x9), some (.int x10), none, none, none] [] h) (rec62 : MH → Nat → Int32 → Int32 → Nat → Nat → Nat → Nat → Nat → Nat → Nat → Int32 → Int32 → Option (Int32 × MH)) (hr62 : ∀ (h : MH) (x0 : Nat) (x1 : Int32) (x2 : Int32) (x3 : Nat) (x4 : Nat) (x5 : Nat) (x6 : Nat) (x7 : Nat) (x8 : Nat) (x9 : Nat) (x10 : Int32) (x11 : Int32), rec62 h x0 x1 x2 x3 x4 x5 x6 x7 x8 x9 x10 x11 = some out → EE K (true, 4, 148) 62 [some (.ref x0), some (.int x1), some (.int x2), some (.ref x3), some (.ref x4), some (.ref x5), some (.ref x6), some (.ref x7), some (.ref x8), some (.ref x9), some (.int x10), some (.int x11), none, none] [] h) (h : MH) (x0 : Nat) (x1 : Int32) (x2 : Int32) (x3 : Nat) (x4 : Nat) (x5 : Nat) (x6 : Nat) (x7 : Nat) (x8 : Nat) (x9 : Nat) (x10 : Int32) (x11 : Int32) (hf : b_L_ahead_62 rec27 rec62 h x0 x1 x2 x3 x4 x5 x6 x7 x8 x9 x10 x11 = some out) : EE K (true, 4, 148) 62 [some (.ref x0), some (.int x1), some (.int x2), some (.ref x3), some (.ref x4), some (.ref x5), some (.ref x6), some (.ref x7), some (.ref x8), some (.ref x9), some (.int x10), some (.int x11), none, none] [] h := by
  unfold b_L_ahead_62 at hf
  refine E_iload (pc := 62) O dL_ahead_62 rfl ?_
  refine E_bipush (pc := 64) O (6 : Int32) dL_ahead_64 (by decide) ?_
  refine E_icmp_ge (pc := 66) O 85 dL_ahead_66 (by decide) hf (fun hf => ?_) (fun hf => ?_)
  · refine E_iload (pc := 85) O dL_ahead_85 rfl ?_
    refine E_iconst (pc := 87) O (3 : Int32) dL_ahead_87 (by decide) ?_
    refine E_icmp_ne (pc := 88) O 228 dL_ahead_88 (by decide) hf (fun hf => ?_) (fun hf => ?_)
    · refine E_iload (pc := 228) O dL_ahead_228 rfl ?_
      refine E_iconst (pc := 230) O (2 : Int32) dL_ahead_230 (by decide) ?_
      refine E_icmp_ne (pc := 231) O 375 dL_ahead_231 (by decide) hf (fun hf => ?_) (fun hf => ?_)
      · refine E_iload (pc := 375) O dL_ahead_375 rfl ?_
        refine E_iconst (pc := 377) O (1 : Int32) dL_ahead_377 (by decide) ?_
        refine E_icmp_ne (pc := 378) O 410 dL_ahead_378 (by decide) hf (fun hf => ?_) (fun hf => ?_)
        · exact E_sub (L' := [some (.ref x0), some (.int x1), some (.int x2), some (.ref x3), some (.ref x4), some (.ref x5), some (.ref x6), some (.ref x7), some (.ref x8), some (.ref x9), some (.int x10), none, none, none]) (And.intro rfl (And.intro rfl (And.intro rfl (And.intro rfl (And.intro rfl (And.intro rfl (And.intro rfl (And.intro rfl (And.intro rfl (And.intro rfl (And.intro rfl True.intro))))))))))) (t_b_L_ahead_410 O Z _ hr27 h x0 x1 x2 x3 x4 x5 x6 x7 x8 x9 x10 hf)
        · refine E_iconst (pc := 381) O (0 : Int32) dL_ahead_381 (by decide) ?_
          refine E_istore (pc := 382) O [some (.ref x0), some (.int x1), some (.int x2), some (.ref x3), some (.ref x4), some (.ref x5), some (.ref x6), some (.ref x7), some (.ref x8), some (.ref x9), some (.int x10), some (.int (0 : Int32)), none, none] dL_ahead_382 (by decide) rfl rfl ?_
          exact t_f_L_ahead_384 O Z _ hr27 FU h x0 x1 x2 x3 x4 x5 x6 x7 x8 x9 x10 (0 : Int32) hf
      · refine E_iload_n (pc := 234) O 1 dL_ahead_234 rfl rfl ?_
        refine E_aload (pc := 235) O dL_ahead_235 rfl ?_
        refine E_iconst (pc := 237) O (0 : Int32) dL_ahead_237 (by decide) ?_
        refine E_iaload (pc := 238) O dL_ahead_238 hf (fun v31 hf => ?_)
        refine E_callS_iP (pc := 239) (S := []) O [.int x1, .int v31] CS_RailSequenceLaw_61 (fun r e => t_L_at e) dL_ahead_239 hf rfl ⟨(Nat.le_of_ble_eq_true rfl), (Nat.le_of_ble_eq_true rfl)⟩ ⟨(Nat.le_of_ble_eq_true rfl), (Nat.le_of_ble_eq_true rfl)⟩ (Nat.le_of_ble_eq_true rfl) (fun v32 hf => ?_)
        refine E_istore (pc := 242) O [some (.ref x0), some (.int x1), some (.int x2), some (.ref x3), some (.ref x4), some (.ref x5), some (.ref x6), some (.ref x7), some (.ref x8), some (.ref x9), some (.int x10), some (.int v32), none, none] dL_ahead_242 (by decide) rfl rfl ?_
        refine E_iconst (pc := 244) O (1 : Int32) dL_ahead_244 (by decide) ?_
        refine E_iload_n (pc := 245) O 2 dL_ahead_245 rfl rfl ?_
        refine E_iload_n (pc := 246) O 1 dL_ahead_246 rfl rfl ?_
        refine E_iconst (pc := 247) O (4 : Int32) dL_ahead_247 (by decide) ?_
        refine E_ishr (pc := 248) O dL_ahead_248 ?_
        refine E_iconst (pc := 249) O (3 : Int32) dL_ahead_249 (by decide) ?_
        refine E_callS_iP (pc := 250) (S := [.int x2, .int (1 : Int32)]) O [.int (x1 >>> ((4 : Int32) &&& 31)), .int (3 : Int32)] CS_RailSequenceLaw_61 (fun r e => t_L_at e) dL_ahead_250 hf rfl ⟨(Nat.le_of_ble_eq_true rfl), (Nat.le_of_ble_eq_true rfl)⟩ ⟨(Nat.le_of_ble_eq_true rfl), (Nat.le_of_ble_eq_true rfl)⟩ (Nat.le_of_ble_eq_true rfl) (fun v33 hf => ?_)
        refine E_if_ne (pc := 253) O 262 dL_ahead_253 (by decide) hf (fun hf => ?_) (fun hf => ?_)
        · refine E_bipush (pc := 262) O (30 : Int32) dL_ahead_262 (by decide) ?_
          exact t_b_L_ahead_264 O Z _ hr27 h x0 x1 x2 x3 x4 x5 x6 x7 x8 x9 x10 v32 (1 : Int32) x2 (30 : Int32) hf
        · refine E_sipush (pc := 256) O (500 : Int32) dL_ahead_256 (by decide) ?_
          refine E_goto (pc := 259) O 264 dL_ahead_259 (by decide) ?_
          exact t_b_L_ahead_264 O Z _ hr27 h x0 x1 x2 x3 x4 x5 x6 x7 x8 x9 x10 v32 (1 : Int32) x2 (500 : Int32) hf
    · refine E_aload_n (pc := 91) O 3 dL_ahead_91 rfl rfl ?_
      refine E_aload (pc := 92) O dL_ahead_92 rfl ?_
      refine E_aload (pc := 94) O dL_ahead_94 rfl ?_
      refine E_aload (pc := 96) O dL_ahead_96 rfl ?_
      refine E_aload (pc := 98) O dL_ahead_98 rfl ?_
      refine E_callS_v (pc := 100) (S := []) O [.ref x3, .ref x6, .ref x7, .ref x8, .ref x9] CS_RailSequenceLaw_57 (fun r e => t_L_tick e) dL_ahead_100 hf rfl ⟨(Nat.le_of_ble_eq_true rfl), (Nat.le_of_ble_eq_true rfl)⟩ ⟨(Nat.le_of_ble_eq_true rfl), (Nat.le_of_ble_eq_true rfl)⟩ (Nat.le_of_ble_eq_true rfl) (fun h34 hf => ?_)
      refine E_iconst (pc := 103) O (1 : Int32) dL_ahead_103 (by decide) ?_
      refine E_istore (pc := 104) O [some (.ref x0), some (.int x1), some (.int x2), some (.ref x3), some (.ref x4), some (.ref x5), some (.ref x6), some (.ref x7), some (.ref x8), some (.ref x9), some (.int x10), some (.int (1 : Int32)), none, none] dL_ahead_104 (by decide) rfl rfl ?_
      refine E_iconst (pc := 106) O (0 : Int32) dL_ahead_106 (by decide) ?_
      refine E_istore (pc := 107) O [some (.ref x0), some (.int x1), some (.int x2), some (.ref x3), some (.ref x4), some (.ref x5), some (.ref x6), some (.ref x7), some (.ref x8), some (.ref x9), some (.int x10), some (.int (1 : Int32)), some (.int (0 : Int32)), none] dL_ahead_107 (by decide) rfl rfl ?_
      exact t_f_L_ahead_109 O Z _ hr27 FU h34 x0 x1 x2 x3 x4 x5 x6 x7 x8 x9 x10 (1 : Int32) (0 : Int32) hf
  · refine E_aload (pc := 69) O dL_ahead_69 rfl ?_
    refine E_iload (pc := 71) O dL_ahead_71 rfl ?_
    refine E_aload (pc := 73) O dL_ahead_73 rfl ?_
    refine E_iload (pc := 75) O dL_ahead_75 rfl ?_
    refine E_iaload (pc := 77) O dL_ahead_77 hf (fun v35 hf => ?_)
    refine E_iastore (pc := 78) O dL_ahead_78 hf (fun h36 hf => ?_)
    refine E_iinc (pc := 79) O (1 : Int32) [some (.ref x0), some (.int x1), some (.int x2), some (.ref x3), some (.ref x4), some (.ref x5), some (.ref x6), some (.ref x7), some (.ref x8), some (.ref x9), some (.int x10), some (.int (x11 + (1 : Int32))), none, none] dL_ahead_79 rfl (by decide) rfl (by decide) rfl ?_
    refine E_goto (pc := 82) O 62 dL_ahead_82 (by decide) ?_
    exact hr62 h36 x0 x1 x2 x3 x4 x5 x6 x7 x8 x9 x10 (x11 + (1 : Int32)) hf
theorem t_f_L_ahead_62 {K : Cx} {out : (Int32 × MH)} (O : Ok K yL_ahead.cls cL_ahead 14 (rmm 7 171 4 148)) (Z : Out K (some .boolean) true (some (.int out.1)) out.2) (rec27 : MH → Nat → Int32 → Int32 → Nat → Nat → Nat → Nat → Nat → Nat → Nat → Int32 → Option (Int32 × MH)) (hr27 : ∀ (h : MH) (x0 : Nat) (x1 : Int32) (x2 : Int32) (x3 : Nat) (x4 : Nat) (x5 : Nat) (x6 : Nat) (x7 : Nat) (x8 : Nat) (x9 : Nat) (x10 : Int32), rec27 h x0 x1 x2 x3 x4 x5 x6 x7 x8 x9 x10 = some out → EE K (true, 4, 148) 27 [some (.ref x0), some (.int x1), some (.int x2), some (.ref x3), some (.ref x4), some (.ref x5), some (.ref x6), some (.ref x7), some (.ref x8), some (.ref x9), some (.int x10), none, none, none] [] h) : ∀ (n : Nat) (h : MH) (x0 : Nat) (x1 : Int32) (x2 : Int32) (x3 : Nat) (x4 : Nat) (x5 : Nat) (x6 : Nat) (x7 : Nat) (x8 : Nat) (x9 : Nat) (x10 : Int32) (x11 : Int32), f_L_ahead_62 rec27 n h x0 x1 x2 x3 x4 x5 x6 x7 x8 x9 x10 x11 = some out → EE K (true, 4, 148) 62 [some (.ref x0), some (.int x1), some (.int x2), some (.ref x3), some (.ref x4), some (.ref x5), some (.ref x6), some (.ref x7), some (.ref x8), some (.ref x9), some (.int x10), some (.int x11), none, none] [] h := by
  intro n
  induction n with
  | zero => intro h x0 x1 x2 x3 x4 x5 x6 x7 x8 x9 x10 x11 hf; cases hf
  | succ n ih => intro h x0 x1 x2 x3 x4 x5 x6 x7 x8 x9 x10 x11 hf; exact t_b_L_ahead_62 O Z _ hr27 _ ih h x0 x1 x2 x3 x4 x5 x6 x7 x8 x9 x10 x11 hf
set_option maxHeartbeats 4000000 in
set_option maxRecDepth 100000 in
theorem t_b_L_ahead_36 {K : Cx} {out : (Int32 × MH)} (O : Ok K yL_ahead.cls cL_ahead 14 (rmm 7 171 4 148)) (Z : Out K (some .boolean) true (some (.int out.1)) out.2) (rec27 : MH → Nat → Int32 → Int32 → Nat → Nat → Nat → Nat → Nat → Nat → Nat → Int32 → Option (Int32 × MH)) (hr27 : ∀ (h : MH) (x0 : Nat) (x1 : Int32) (x2 : Int32) (x3 : Nat) (x4 : Nat) (x5 : Nat) (x6 : Nat) (x7 : Nat) (x8 : Nat) (x9 : Nat) (x10 : Int32), rec27 h x0 x1 x2 x3 x4 x5 x6 x7 x8 x9 x10 = some out → EE K (true, 4, 148) 27 [some (.ref x0), some (.int x1), some (.int x2), some (.ref x3), some (.ref x4), some (.ref x5), some (.ref x6), some (.ref x7), some (.ref x8), some (.ref x9), some (.int x10), none, none, none] [] h) (rec36 : MH → Nat → Int32 → Int32 → Nat → Nat → Nat → Nat → Nat → Nat → Nat → Int32 → Int32 → Option (Int32 × MH)) (hr36 : ∀ (h : MH) (x0 : Nat) (x1 : Int32) (x2 : Int32) (x3 : Nat) (x4 : Nat) (x5 : Nat) (x6 : Nat) (x7 : Nat) (x8 : Nat) (x9 : Nat) (x10 : Int32) (x11 : Int32), rec36 h x0 x1 x2 x3 x4 x5 x6 x7 x8 x9 x10 x11 = some out → EE K (true, 4, 148) 36 [some (.ref x0), some (.int x1), some (.int x2), some (.ref x3), some (.ref x4), some (.ref x5), some (.ref x6), some (.ref x7), some (.ref x8), some (.ref x9), some (.int x10), some (.int x11), none, none] [] h) (h : MH) (x0 : Nat) (x1 : Int32) (x2 : Int32) (x3 : Nat) (x4 : Nat) (x5 : Nat) (x6 : Nat) (x7 : Nat) (x8 : Nat) (x9 : Nat) (x10 : Int32) (x11 : Int32) (hf : b_L_ahead_36 rec27 rec36 h x0 x1 x2 x3 x4 x5 x6 x7 x8 x9 x10 x11 = some out) : EE K (true, 4, 148) 36 [some (.ref x0), some (.int x1), some (.int x2), some (.ref x3), some (.ref x4), some (.ref x5), some (.ref x6), some (.ref x7), some (.ref x8), some (.ref x9), some (.int x10), some (.int x11), none, none] [] h := by
  unfold b_L_ahead_36 at hf
  refine E_iload (pc := 36) O dL_ahead_36 rfl ?_
  refine E_bipush (pc := 38) O (54 : Int32) dL_ahead_38 (by decide) ?_
  refine E_icmp_ge (pc := 40) O 59 dL_ahead_40 (by decide) hf (fun hf => ?_) (fun hf => ?_)
  · refine E_iconst (pc := 59) O (0 : Int32) dL_ahead_59 (by decide) ?_
    refine E_istore (pc := 60) O [some (.ref x0), some (.int x1), some (.int x2), some (.ref x3), some (.ref x4), some (.ref x5), some (.ref x6), some (.ref x7), some (.ref x8), some (.ref x9), some (.int x10), some (.int (0 : Int32)), none, none] dL_ahead_60 (by decide) rfl rfl ?_
    exact t_f_L_ahead_62 O Z _ hr27 FU h x0 x1 x2 x3 x4 x5 x6 x7 x8 x9 x10 (0 : Int32) hf
  · refine E_aload (pc := 43) O dL_ahead_43 rfl ?_
    refine E_iload (pc := 45) O dL_ahead_45 rfl ?_
    refine E_aload (pc := 47) O dL_ahead_47 rfl ?_
    refine E_iload (pc := 49) O dL_ahead_49 rfl ?_
    refine E_iaload (pc := 51) O dL_ahead_51 hf (fun v37 hf => ?_)
    refine E_iastore (pc := 52) O dL_ahead_52 hf (fun h38 hf => ?_)
    refine E_iinc (pc := 53) O (1 : Int32) [some (.ref x0), some (.int x1), some (.int x2), some (.ref x3), some (.ref x4), some (.ref x5), some (.ref x6), some (.ref x7), some (.ref x8), some (.ref x9), some (.int x10), some (.int (x11 + (1 : Int32))), none, none] dL_ahead_53 rfl (by decide) rfl (by decide) rfl ?_
    refine E_goto (pc := 56) O 36 dL_ahead_56 (by decide) ?_
    exact hr36 h38 x0 x1 x2 x3 x4 x5 x6 x7 x8 x9 x10 (x11 + (1 : Int32)) hf
theorem t_f_L_ahead_36 {K : Cx} {out : (Int32 × MH)} (O : Ok K yL_ahead.cls cL_ahead 14 (rmm 7 171 4 148)) (Z : Out K (some .boolean) true (some (.int out.1)) out.2) (rec27 : MH → Nat → Int32 → Int32 → Nat → Nat → Nat → Nat → Nat → Nat → Nat → Int32 → Option (Int32 × MH)) (hr27 : ∀ (h : MH) (x0 : Nat) (x1 : Int32) (x2 : Int32) (x3 : Nat) (x4 : Nat) (x5 : Nat) (x6 : Nat) (x7 : Nat) (x8 : Nat) (x9 : Nat) (x10 : Int32), rec27 h x0 x1 x2 x3 x4 x5 x6 x7 x8 x9 x10 = some out → EE K (true, 4, 148) 27 [some (.ref x0), some (.int x1), some (.int x2), some (.ref x3), some (.ref x4), some (.ref x5), some (.ref x6), some (.ref x7), some (.ref x8), some (.ref x9), some (.int x10), none, none, none] [] h) : ∀ (n : Nat) (h : MH) (x0 : Nat) (x1 : Int32) (x2 : Int32) (x3 : Nat) (x4 : Nat) (x5 : Nat) (x6 : Nat) (x7 : Nat) (x8 : Nat) (x9 : Nat) (x10 : Int32) (x11 : Int32), f_L_ahead_36 rec27 n h x0 x1 x2 x3 x4 x5 x6 x7 x8 x9 x10 x11 = some out → EE K (true, 4, 148) 36 [some (.ref x0), some (.int x1), some (.int x2), some (.ref x3), some (.ref x4), some (.ref x5), some (.ref x6), some (.ref x7), some (.ref x8), some (.ref x9), some (.int x10), some (.int x11), none, none] [] h := by
  intro n
  induction n with
  | zero => intro h x0 x1 x2 x3 x4 x5 x6 x7 x8 x9 x10 x11 hf; cases hf
  | succ n ih => intro h x0 x1 x2 x3 x4 x5 x6 x7 x8 x9 x10 x11 hf; exact t_b_L_ahead_36 O Z _ hr27 _ ih h x0 x1 x2 x3 x4 x5 x6 x7 x8 x9 x10 x11 hf
set_option maxHeartbeats 4000000 in
set_option maxRecDepth 100000 in
theorem t_b_L_ahead_27 {K : Cx} {out : (Int32 × MH)} (O : Ok K yL_ahead.cls cL_ahead 14 (rmm 7 171 4 148)) (Z : Out K (some .boolean) true (some (.int out.1)) out.2) (rec27 : MH → Nat → Int32 → Int32 → Nat → Nat → Nat → Nat → Nat → Nat → Nat → Int32 → Option (Int32 × MH)) (hr27 : ∀ (h : MH) (x0 : Nat) (x1 : Int32) (x2 : Int32) (x3 : Nat) (x4 : Nat) (x5 : Nat) (x6 : Nat) (x7 : Nat) (x8 : Nat) (x9 : Nat) (x10 : Int32), rec27 h x0 x1 x2 x3 x4 x5 x6 x7 x8 x9 x10 = some out → EE K (true, 4, 148) 27 [some (.ref x0), some (.int x1), some (.int x2), some (.ref x3), some (.ref x4), some (.ref x5), some (.ref x6), some (.ref x7), some (.ref x8), some (.ref x9), some (.int x10), none, none, none] [] h) (h : MH) (x0 : Nat) (x1 : Int32) (x2 : Int32) (x3 : Nat) (x4 : Nat) (x5 : Nat) (x6 : Nat) (x7 : Nat) (x8 : Nat) (x9 : Nat) (x10 : Int32) (hf : b_L_ahead_27 rec27 h x0 x1 x2 x3 x4 x5 x6 x7 x8 x9 x10 = some out) : EE K (true, 4, 148) 27 [some (.ref x0), some (.int x1), some (.int x2), some (.ref x3), some (.ref x4), some (.ref x5), some (.ref x6), some (.ref x7), some (.ref x8), some (.ref x9), some (.int x10), none, none, none] [] h := by
  unfold b_L_ahead_27 at hf
  refine E_iload (pc := 27) O dL_ahead_27 rfl ?_
  refine E_iconst (pc := 29) O (4 : Int32) dL_ahead_29 (by decide) ?_
  refine E_icmp_ge (pc := 30) O 591 dL_ahead_30 (by decide) hf (fun hf => ?_) (fun hf => ?_)
  · refine E_iconst (pc := 591) O (1 : Int32) dL_ahead_591 (by decide) ?_
    exact E_zret (pc := 592) O Z hf ⟨(Nat.le_of_ble_eq_true rfl), (Nat.le_of_ble_eq_true rfl)⟩ dL_ahead_592
  · refine E_iconst (pc := 33) O (0 : Int32) dL_ahead_33 (by decide) ?_
    refine E_istore (pc := 34) O [some (.ref x0), some (.int x1), some (.int x2), some (.ref x3), some (.ref x4), some (.ref x5), some (.ref x6), some (.ref x7), some (.ref x8), some (.ref x9), some (.int x10), some (.int (0 : Int32)), none, none] dL_ahead_34 (by decide) rfl rfl ?_
    exact t_f_L_ahead_36 O Z _ hr27 FU h x0 x1 x2 x3 x4 x5 x6 x7 x8 x9 x10 (0 : Int32) hf
theorem t_f_L_ahead_27 {K : Cx} {out : (Int32 × MH)} (O : Ok K yL_ahead.cls cL_ahead 14 (rmm 7 171 4 148)) (Z : Out K (some .boolean) true (some (.int out.1)) out.2) : ∀ (n : Nat) (h : MH) (x0 : Nat) (x1 : Int32) (x2 : Int32) (x3 : Nat) (x4 : Nat) (x5 : Nat) (x6 : Nat) (x7 : Nat) (x8 : Nat) (x9 : Nat) (x10 : Int32), f_L_ahead_27 n h x0 x1 x2 x3 x4 x5 x6 x7 x8 x9 x10 = some out → EE K (true, 4, 148) 27 [some (.ref x0), some (.int x1), some (.int x2), some (.ref x3), some (.ref x4), some (.ref x5), some (.ref x6), some (.ref x7), some (.ref x8), some (.ref x9), some (.int x10), none, none, none] [] h := by
  intro n
  induction n with
  | zero => intro h x0 x1 x2 x3 x4 x5 x6 x7 x8 x9 x10 hf; cases hf
  | succ n ih => intro h x0 x1 x2 x3 x4 x5 x6 x7 x8 x9 x10 hf; exact t_b_L_ahead_27 O Z _ ih h x0 x1 x2 x3 x4 x5 x6 x7 x8 x9 x10 hf
set_option maxHeartbeats 4000000 in
set_option maxRecDepth 100000 in
theorem t_L_ahead {g : Gx} {h : MH} {x0 x1 x2 x3 x4 x5} {out : (Int32 × MH)} (hf : f_L_ahead h x0 x1 x2 x3 x4 x5 = some out) : MM g yL_ahead cL_ahead 14 (some .boolean) 7 171 4 148 true true [.ref x0, .int x1, .int x2, .ref x3, .ref x4, .ref x5] h (some (.int out.1)) out.2 := by
  unfold f_L_ahead at hf
  refine MM_of (L := [some (.ref x0), some (.int x1), some (.int x2), some (.ref x3), some (.ref x4), some (.ref x5), none, none, none, none, none, none, none, none]) (by decide) (Nat.le_of_ble_eq_true rfl) rfl (fun K hK O Z hn => ?_)
  refine E_bipush (pc := 0) O (54 : Int32) dL_ahead_0 (by decide) ?_
  refine E_newaI (pc := 2) O (aw1 41 (by decide +kernel) rfl) dL_ahead_2 (by decide) (by decide) (Nat.le_of_ble_eq_true rfl) hf ⟨(Nat.le_of_ble_eq_true rfl), (Nat.le_of_ble_eq_true rfl)⟩ (fun h39 hf => ?_)
  show EE K (true, 1, 54) _ _ _ _
  obtain ⟨v40, ev40, hf⟩ := ob hf
  have ev40 := os ev40
  rw [ev40]
  refine E_astore (pc := 4) O [some (.ref x0), some (.int x1), some (.int x2), some (.ref x3), some (.ref x4), some (.ref x5), some (.ref v40), none, none, none, none, none, none, none] dL_ahead_4 (by decide) rfl rfl ?_
  refine E_bipush (pc := 6) O (24 : Int32) dL_ahead_6 (by decide) ?_
  refine E_newaI (pc := 8) O (aw1 41 (by decide +kernel) rfl) dL_ahead_8 (by decide) (by decide) (Nat.le_of_ble_eq_true rfl) hf ⟨(Nat.le_of_ble_eq_true rfl), (Nat.le_of_ble_eq_true rfl)⟩ (fun h41 hf => ?_)
  show EE K (true, 2, 78) _ _ _ _
  obtain ⟨v42, ev42, hf⟩ := ob hf
  have ev42 := os ev42
  rw [ev42]
  refine E_astore (pc := 10) O [some (.ref x0), some (.int x1), some (.int x2), some (.ref x3), some (.ref x4), some (.ref x5), some (.ref v40), some (.ref v42), none, none, none, none, none, none] dL_ahead_10 (by decide) rfl rfl ?_
  refine E_bipush (pc := 12) O (64 : Int32) dL_ahead_12 (by decide) ?_
  refine E_newaI (pc := 14) O (aw1 41 (by decide +kernel) rfl) dL_ahead_14 (by decide) (by decide) (Nat.le_of_ble_eq_true rfl) hf ⟨(Nat.le_of_ble_eq_true rfl), (Nat.le_of_ble_eq_true rfl)⟩ (fun h43 hf => ?_)
  show EE K (true, 3, 142) _ _ _ _
  obtain ⟨v44, ev44, hf⟩ := ob hf
  have ev44 := os ev44
  rw [ev44]
  refine E_astore (pc := 16) O [some (.ref x0), some (.int x1), some (.int x2), some (.ref x3), some (.ref x4), some (.ref x5), some (.ref v40), some (.ref v42), some (.ref v44), none, none, none, none, none] dL_ahead_16 (by decide) rfl rfl ?_
  refine E_bipush (pc := 18) O (6 : Int32) dL_ahead_18 (by decide) ?_
  refine E_newaI (pc := 20) O (aw1 41 (by decide +kernel) rfl) dL_ahead_20 (by decide) (by decide) (Nat.le_of_ble_eq_true rfl) hf ⟨(Nat.le_of_ble_eq_true rfl), (Nat.le_of_ble_eq_true rfl)⟩ (fun h45 hf => ?_)
  show EE K (true, 4, 148) _ _ _ _
  obtain ⟨v46, ev46, hf⟩ := ob hf
  have ev46 := os ev46
  rw [ev46]
  refine E_astore (pc := 22) O [some (.ref x0), some (.int x1), some (.int x2), some (.ref x3), some (.ref x4), some (.ref x5), some (.ref v40), some (.ref v42), some (.ref v44), some (.ref v46), none, none, none, none] dL_ahead_22 (by decide) rfl rfl ?_
  refine E_iconst (pc := 24) O (0 : Int32) dL_ahead_24 (by decide) ?_
  refine E_istore (pc := 25) O [some (.ref x0), some (.int x1), some (.int x2), some (.ref x3), some (.ref x4), some (.ref x5), some (.ref v40), some (.ref v42), some (.ref v44), some (.ref v46), some (.int (0 : Int32)), none, none, none] dL_ahead_25 (by decide) rfl rfl ?_
  exact t_f_L_ahead_27 O Z FU h45 x0 x1 x2 x3 x4 x5 v40 v42 v44 v46 (0 : Int32) hf
set_option maxHeartbeats 4000000 in
set_option maxRecDepth 100000 in
theorem t_b_L_value_105 {K : Cx} {fr : Bool} {out : Int32} {h : MH} (O : Ok K yL_value.cls cL_value 2 (rmm 1 21 0 0)) (Z : Out K (some .int) fr (some (.int out)) h) (s0 : Int32) (hf : b_L_value_105 h s0 = some out) : EE K (fr, 0, 0) 105 [none, none] [.int s0] h := by
  unfold b_L_value_105 at hf
  exact E_iretP (pc := 105) O Z hf ⟨(Nat.le_of_ble_eq_true rfl), (Nat.le_of_ble_eq_true rfl)⟩ dL_value_105
set_option maxHeartbeats 4000000 in
set_option maxRecDepth 100000 in
theorem t_b_L_value_44 {K : Cx} {fr : Bool} {out : Int32} {h : MH} (O : Ok K yL_value.cls cL_value 2 (rmm 1 21 0 0)) (Z : Out K (some .int) fr (some (.int out)) h) (s0 : Int32) (s1 : Int32) (s2 : Int32) (hf : b_L_value_44 h s0 s1 s2 = some out) : EE K (fr, 0, 0) 44 [none, none] [.int s2, .int s1, .int s0] h := by
  unfold b_L_value_44 at hf
  refine E_callS_iP (pc := 44) (S := [.int s0]) O [.int s1, .int s2] CS_RailSequenceLaw_61 (fun r e => t_L_at e) dL_value_44 hf rfl ⟨(Nat.le_of_ble_eq_true rfl), (Nat.le_of_ble_eq_true rfl)⟩ ⟨(Nat.le_of_ble_eq_true rfl), (Nat.le_of_ble_eq_true rfl)⟩ (Nat.le_of_ble_eq_true rfl) (fun v1 hf => ?_)
  refine E_iadd (pc := 47) O dL_value_47 ?_
  refine E_goto (pc := 48) O 105 dL_value_48 (by decide) ?_
  exact t_b_L_value_105 O Z (s0 + v1) hf
set_option maxHeartbeats 4000000 in
set_option maxRecDepth 100000 in
theorem t_L_value {g : Gx} {fr : Bool} {h : MH} {x0 x1} {out : Int32} (hf : f_L_value h x0 x1 = some out) : MM g yL_value cL_value 2 (some .int) 1 21 0 0 fr fr [.int x0, .int x1] h (some (.int out)) h := by
  unfold f_L_value at hf
  refine MM_of (L := [some (.int x0), some (.int x1)]) (by decide) (Nat.le_of_ble_eq_true rfl) rfl (fun K hK O Z hn => ?_)
  refine E_iload_n (pc := 0) O 0 dL_value_0 rfl rfl ?_
  refine E_if_ne (pc := 1) O 17 dL_value_1 (by decide) hf (fun hf => ?_) (fun hf => ?_)
  · refine E_iload_n (pc := 17) O 0 dL_value_17 rfl rfl ?_
    refine E_iconst (pc := 18) O (3 : Int32) dL_value_18 (by decide) ?_
    refine E_icmp_ge (pc := 19) O 51 dL_value_19 (by decide) hf (fun hf => ?_) (fun hf => ?_)
    · refine E_iload_n (pc := 51) O 0 dL_value_51 rfl rfl ?_
      refine E_iconst (pc := 52) O (3 : Int32) dL_value_52 (by decide) ?_
      refine E_icmp_ne (pc := 53) O 68 dL_value_53 (by decide) hf (fun hf => ?_) (fun hf => ?_)
      · refine E_iload_n (pc := 68) O 0 dL_value_68 rfl rfl ?_
        refine E_iconst (pc := 69) O (4 : Int32) dL_value_69 (by decide) ?_
        refine E_icmp_ne (pc := 70) O 82 dL_value_70 (by decide) hf (fun hf => ?_) (fun hf => ?_)
        · refine E_iload_n (pc := 82) O 0 dL_value_82 rfl rfl ?_
          refine E_iconst (pc := 83) O (5 : Int32) dL_value_83 (by decide) ?_
          refine E_icmp_ne (pc := 84) O 98 dL_value_84 (by decide) hf (fun hf => ?_) (fun hf => ?_)
          · refine E_iconst (pc := 98) O (1 : Int32) dL_value_98 (by decide) ?_
            refine E_iload_n (pc := 99) O 1 dL_value_99 rfl rfl ?_
            refine E_iconst (pc := 100) O (4 : Int32) dL_value_100 (by decide) ?_
            refine E_callS_iP (pc := 101) (S := [.int (1 : Int32)]) O [.int x1, .int (4 : Int32)] CS_RailSequenceLaw_61 (fun r e => t_L_at e) dL_value_101 hf rfl ⟨(Nat.le_of_ble_eq_true rfl), (Nat.le_of_ble_eq_true rfl)⟩ ⟨(Nat.le_of_ble_eq_true rfl), (Nat.le_of_ble_eq_true rfl)⟩ (Nat.le_of_ble_eq_true rfl) (fun v2 hf => ?_)
            refine E_iadd (pc := 104) O dL_value_104 ?_
            exact E_sub (L' := [none, none]) True.intro (t_b_L_value_105 O Z ((1 : Int32) + v2) hf)
          · refine E_iconst (pc := 87) O (1 : Int32) dL_value_87 (by decide) ?_
            refine E_iload_n (pc := 88) O 1 dL_value_88 rfl rfl ?_
            refine E_bipush (pc := 89) O (60 : Int32) dL_value_89 (by decide) ?_
            refine E_callS_iP (pc := 91) (S := [.int (1 : Int32)]) O [.int x1, .int (60 : Int32)] CS_RailSequenceLaw_61 (fun r e => t_L_at e) dL_value_91 hf rfl ⟨(Nat.le_of_ble_eq_true rfl), (Nat.le_of_ble_eq_true rfl)⟩ ⟨(Nat.le_of_ble_eq_true rfl), (Nat.le_of_ble_eq_true rfl)⟩ (Nat.le_of_ble_eq_true rfl) (fun v3 hf => ?_)
            refine E_iadd (pc := 94) O dL_value_94 ?_
            refine E_goto (pc := 95) O 105 dL_value_95 (by decide) ?_
            exact E_sub (L' := [none, none]) True.intro (t_b_L_value_105 O Z ((1 : Int32) + v3) hf)
        · refine E_iload_n (pc := 73) O 1 dL_value_73 rfl rfl ?_
          refine E_bipush (pc := 74) O (12 : Int32) dL_value_74 (by decide) ?_
          refine E_callS_iP (pc := 76) (S := []) O [.int x1, .int (12 : Int32)] CS_RailSequenceLaw_61 (fun r e => t_L_at e) dL_value_76 hf rfl ⟨(Nat.le_of_ble_eq_true rfl), (Nat.le_of_ble_eq_true rfl)⟩ ⟨(Nat.le_of_ble_eq_true rfl), (Nat.le_of_ble_eq_true rfl)⟩ (Nat.le_of_ble_eq_true rfl) (fun v4 hf => ?_)
          refine E_goto (pc := 79) O 105 dL_value_79 (by decide) ?_
          exact E_sub (L' := [none, none]) True.intro (t_b_L_value_105 O Z v4 hf)
      · refine E_bipush (pc := 56) O (50 : Int32) dL_value_56 (by decide) ?_
        refine E_iload_n (pc := 58) O 1 dL_value_58 rfl rfl ?_
        refine E_bipush (pc := 59) O (51 : Int32) dL_value_59 (by decide) ?_
        refine E_callS_iP (pc := 61) (S := [.int (50 : Int32)]) O [.int x1, .int (51 : Int32)] CS_RailSequenceLaw_61 (fun r e => t_L_at e) dL_value_61 hf rfl ⟨(Nat.le_of_ble_eq_true rfl), (Nat.le_of_ble_eq_true rfl)⟩ ⟨(Nat.le_of_ble_eq_true rfl), (Nat.le_of_ble_eq_true rfl)⟩ (Nat.le_of_ble_eq_true rfl) (fun v5 hf => ?_)
        refine E_iadd (pc := 64) O dL_value_64 ?_
        refine E_goto (pc := 65) O 105 dL_value_65 (by decide) ?_
        exact E_sub (L' := [none, none]) True.intro (t_b_L_value_105 O Z ((50 : Int32) + v5) hf)
    · refine E_iconst (pc := 22) O (1 : Int32) dL_value_22 (by decide) ?_
      refine E_iload_n (pc := 23) O 1 dL_value_23 rfl rfl ?_
      refine E_iload_n (pc := 24) O 1 dL_value_24 rfl rfl ?_
      refine E_bipush (pc := 25) O (9 : Int32) dL_value_25 (by decide) ?_
      refine E_ishr (pc := 27) O dL_value_27 ?_
      refine E_iconst (pc := 28) O (2 : Int32) dL_value_28 (by decide) ?_
      refine E_callS_iP (pc := 29) (S := [.int x1, .int (1 : Int32)]) O [.int (x1 >>> ((9 : Int32) &&& 31)), .int (2 : Int32)] CS_RailSequenceLaw_61 (fun r e => t_L_at e) dL_value_29 hf rfl ⟨(Nat.le_of_ble_eq_true rfl), (Nat.le_of_ble_eq_true rfl)⟩ ⟨(Nat.le_of_ble_eq_true rfl), (Nat.le_of_ble_eq_true rfl)⟩ (Nat.le_of_ble_eq_true rfl) (fun v6 hf => ?_)
      refine E_if_ne (pc := 32) O 41 dL_value_32 (by decide) hf (fun hf => ?_) (fun hf => ?_)
      · refine E_sipush (pc := 41) O (200 : Int32) dL_value_41 (by decide) ?_
        exact E_sub (L' := [none, none]) True.intro (t_b_L_value_44 O Z (1 : Int32) x1 (200 : Int32) hf)
      · refine E_sipush (pc := 35) O (1000 : Int32) dL_value_35 (by decide) ?_
        refine E_goto (pc := 38) O 44 dL_value_38 (by decide) ?_
        exact E_sub (L' := [none, none]) True.intro (t_b_L_value_44 O Z (1 : Int32) x1 (1000 : Int32) hf)
  · refine E_bipush (pc := 4) O (100 : Int32) dL_value_4 (by decide) ?_
    refine E_iload_n (pc := 6) O 1 dL_value_6 rfl rfl ?_
    refine E_sipush (pc := 7) O (4901 : Int32) dL_value_7 (by decide) ?_
    refine E_callS_iP (pc := 10) (S := [.int (100 : Int32)]) O [.int x1, .int (4901 : Int32)] CS_RailSequenceLaw_61 (fun r e => t_L_at e) dL_value_10 hf rfl ⟨(Nat.le_of_ble_eq_true rfl), (Nat.le_of_ble_eq_true rfl)⟩ ⟨(Nat.le_of_ble_eq_true rfl), (Nat.le_of_ble_eq_true rfl)⟩ (Nat.le_of_ble_eq_true rfl) (fun v7 hf => ?_)
    refine E_iadd (pc := 13) O dL_value_13 ?_
    refine E_goto (pc := 14) O 105 dL_value_14 (by decide) ?_
    exact E_sub (L' := [none, none]) True.intro (t_b_L_value_105 O Z ((100 : Int32) + v7) hf)
