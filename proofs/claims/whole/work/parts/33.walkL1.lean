/-! walks: the machine does what the plain functions say: written by program -/
set_option maxHeartbeats 4000000 in
set_option maxRecDepth 100000 in
theorem t_b_L_law_1515 {K : Cx} {out : Int32} {sc : Nat × (Nat → Int32)} (O : Ok K "RailSequenceLaw" code 9 room_1) (Z : ∀ (cs ss : Nat) (pc : Nat) (L : List (Option Value)) (h : MH), cs ≤ 601024 → ss ≤ 7293034 → decode code pc = .ok (.ireturn, 1) → EE K (false, cs, ss) pc L [.int 1] h) (hsc : gro K.1 0 = sc) (hout : out = 1) {cs ss : Nat} (hcs : cs + 1 ≤ 601024) (hss : ss + 6 ≤ 7293034) (rec23 : MH → Nat → Nat → Nat → Int32 → Option Int32) (hr23 : ∀ (h : MH) (x1 : Nat) (x2 : Nat) (x3 : Nat) (x4 : Int32), rec23 h x1 x2 x3 x4 = some out → EE K (false, cs + 1, ss + 6) 23 [some (.ref (RO + 0)), some (.ref x1), some (.ref x2), some (.ref x3), some (.int x4), none, none, none, none] [] h) (h : MH) (x1 : Nat) (x2 : Nat) (x3 : Nat) (x4 : Int32) (hf : b_L_law_1515 sc rec23 h x1 x2 x3 x4 = some out) : EE K (false, cs + 1, ss + 6) 1515 [some (.ref (RO + 0)), some (.ref x1), some (.ref x2), some (.ref x3), some (.int x4), none, none, none, none] [] h := by
  unfold b_L_law_1515 at hf
  refine E_iinc (pc := 1515) O (5 : Int32) [some (.ref (RO + 0)), some (.ref x1), some (.ref x2), some (.ref x3), some (.int (x4 + (5 : Int32))), none, none, none, none] dL_law_1515 rfl (by decide) rfl (by decide) rfl ?_
  refine E_goto (pc := 1518) O 23 dL_law_1518 (by decide) ?_
  refine E_widen (cs := cs + 1) (ss := ss + 6) (by first | exact Nat.le_refl _ | exact Nat.le_add_right _ _) (by first | exact Nat.le_refl _ | exact Nat.le_add_right _ _) ?_
  exact hr23 h x1 x2 x3 (x4 + (5 : Int32)) hf
set_option maxHeartbeats 4000000 in
set_option maxRecDepth 100000 in
theorem t_b_L_law_1401 {K : Cx} {out : Int32} {sc : Nat × (Nat → Int32)} (O : Ok K "RailSequenceLaw" code 9 room_1) (Z : ∀ (cs ss : Nat) (pc : Nat) (L : List (Option Value)) (h : MH), cs ≤ 601024 → ss ≤ 7293034 → decode code pc = .ok (.ireturn, 1) → EE K (false, cs, ss) pc L [.int 1] h) (hsc : gro K.1 0 = sc) (hout : out = 1) {cs ss : Nat} (hcs : cs + 1 ≤ 601024) (hss : ss + 6 ≤ 7293034) (rec23 : MH → Nat → Nat → Nat → Int32 → Option Int32) (hr23 : ∀ (h : MH) (x1 : Nat) (x2 : Nat) (x3 : Nat) (x4 : Int32), rec23 h x1 x2 x3 x4 = some out → EE K (false, cs + 1, ss + 6) 23 [some (.ref (RO + 0)), some (.ref x1), some (.ref x2), some (.ref x3), some (.int x4), none, none, none, none] [] h) (h : MH) (x1 : Nat) (x2 : Nat) (x3 : Nat) (x4 : Int32) (hf : b_L_law_1401 sc rec23 h x1 x2 x3 x4 = some out) : EE K (false, cs + 1, ss + 6) 1401 [some (.ref (RO + 0)), some (.ref x1), some (.ref x2), some (.ref x3), some (.int x4), none, none, none, none] [] h := by
  unfold b_L_law_1401 at hf
  refine E_goto (pc := 1401) O 1515 dL_law_1401 (by decide) ?_
  refine E_widen (cs := cs + 1) (ss := ss + 6) (by first | exact Nat.le_refl _ | exact Nat.le_add_right _ _) (by first | exact Nat.le_refl _ | exact Nat.le_add_right _ _) ?_
  exact t_b_L_law_1515 O Z hsc hout hcs hss _ hr23 h x1 x2 x3 x4 hf
set_option maxHeartbeats 4000000 in
set_option maxRecDepth 100000 in
theorem t_b_L_law_393 {K : Cx} {out : Int32} {sc : Nat × (Nat → Int32)} (O : Ok K "RailSequenceLaw" code 9 room_1) (Z : ∀ (cs ss : Nat) (pc : Nat) (L : List (Option Value)) (h : MH), cs ≤ 601024 → ss ≤ 7293034 → decode code pc = .ok (.ireturn, 1) → EE K (false, cs, ss) pc L [.int 1] h) (hsc : gro K.1 0 = sc) (hout : out = 1) {cs ss : Nat} (hcs : cs + 1 ≤ 601024) (hss : ss + 6 ≤ 7293034) (rec23 : MH → Nat → Nat → Nat → Int32 → Option Int32) (hr23 : ∀ (h : MH) (x1 : Nat) (x2 : Nat) (x3 : Nat) (x4 : Int32), rec23 h x1 x2 x3 x4 = some out → EE K (false, cs + 1, ss + 6) 23 [some (.ref (RO + 0)), some (.ref x1), some (.ref x2), some (.ref x3), some (.int x4), none, none, none, none] [] h) (h : MH) (x1 : Nat) (x2 : Nat) (x3 : Nat) (x4 : Int32) (hf : b_L_law_393 sc rec23 h x1 x2 x3 x4 = some out) : EE K (false, cs + 1, ss + 6) 393 [some (.ref (RO + 0)), some (.ref x1), some (.ref x2), some (.ref x3), some (.int x4), none, none, none, none] [] h := by
  unfold b_L_law_393 at hf
  refine E_goto (pc := 393) O 1515 dL_law_393 (by decide) ?_
  refine E_widen (cs := cs + 1) (ss := ss + 6) (by first | exact Nat.le_refl _ | exact Nat.le_add_right _ _) (by first | exact Nat.le_refl _ | exact Nat.le_add_right _ _) ?_
  exact t_b_L_law_1515 O Z hsc hout hcs hss _ hr23 h x1 x2 x3 x4 hf
set_option maxHeartbeats 4000000 in
set_option maxRecDepth 100000 in
theorem t_b_L_law_1295 {K : Cx} {out : Int32} {sc : Nat × (Nat → Int32)} (O : Ok K "RailSequenceLaw" code 9 room_1) (Z : ∀ (cs ss : Nat) (pc : Nat) (L : List (Option Value)) (h : MH), cs ≤ 601024 → ss ≤ 7293034 → decode code pc = .ok (.ireturn, 1) → EE K (false, cs, ss) pc L [.int 1] h) (hsc : gro K.1 0 = sc) (hout : out = 1) {cs ss : Nat} (hcs : cs + 1 ≤ 601024) (hss : ss + 6 ≤ 7293034) (rec23 : MH → Nat → Nat → Nat → Int32 → Option Int32) (hr23 : ∀ (h : MH) (x1 : Nat) (x2 : Nat) (x3 : Nat) (x4 : Int32), rec23 h x1 x2 x3 x4 = some out → EE K (false, cs + 1, ss + 6) 23 [some (.ref (RO + 0)), some (.ref x1), some (.ref x2), some (.ref x3), some (.int x4), none, none, none, none] [] h) (h : MH) (x1 : Nat) (x2 : Nat) (x3 : Nat) (x4 : Int32) (hf : b_L_law_1295 sc rec23 h x1 x2 x3 x4 = some out) : EE K (false, cs + 1, ss + 6) 1295 [some (.ref (RO + 0)), some (.ref x1), some (.ref x2), some (.ref x3), some (.int x4), none, none, none, none] [] h := by
  unfold b_L_law_1295 at hf
  refine E_goto (pc := 1295) O 1515 dL_law_1295 (by decide) ?_
  refine E_widen (cs := cs + 1) (ss := ss + 6) (by first | exact Nat.le_refl _ | exact Nat.le_add_right _ _) (by first | exact Nat.le_refl _ | exact Nat.le_add_right _ _) ?_
  exact t_b_L_law_1515 O Z hsc hout hcs hss _ hr23 h x1 x2 x3 x4 hf
set_option maxHeartbeats 4000000 in
set_option maxRecDepth 100000 in
theorem t_b_L_law_1047 {K : Cx} {out : Int32} {sc : Nat × (Nat → Int32)} (O : Ok K "RailSequenceLaw" code 9 room_1) (Z : ∀ (cs ss : Nat) (pc : Nat) (L : List (Option Value)) (h : MH), cs ≤ 601024 → ss ≤ 7293034 → decode code pc = .ok (.ireturn, 1) → EE K (false, cs, ss) pc L [.int 1] h) (hsc : gro K.1 0 = sc) (hout : out = 1) {cs ss : Nat} (hcs : cs + 1 ≤ 601024) (hss : ss + 6 ≤ 7293034) (rec23 : MH → Nat → Nat → Nat → Int32 → Option Int32) (hr23 : ∀ (h : MH) (x1 : Nat) (x2 : Nat) (x3 : Nat) (x4 : Int32), rec23 h x1 x2 x3 x4 = some out → EE K (false, cs + 1, ss + 6) 23 [some (.ref (RO + 0)), some (.ref x1), some (.ref x2), some (.ref x3), some (.int x4), none, none, none, none] [] h) (h : MH) (x1 : Nat) (x2 : Nat) (x3 : Nat) (x4 : Int32) (hf : b_L_law_1047 sc rec23 h x1 x2 x3 x4 = some out) : EE K (false, cs + 1, ss + 6) 1047 [some (.ref (RO + 0)), some (.ref x1), some (.ref x2), some (.ref x3), some (.int x4), none, none, none, none] [] h := by
  unfold b_L_law_1047 at hf
  refine E_goto (pc := 1047) O 1515 dL_law_1047 (by decide) ?_
  refine E_widen (cs := cs + 1) (ss := ss + 6) (by first | exact Nat.le_refl _ | exact Nat.le_add_right _ _) (by first | exact Nat.le_refl _ | exact Nat.le_add_right _ _) ?_
  exact t_b_L_law_1515 O Z hsc hout hcs hss _ hr23 h x1 x2 x3 x4 hf
set_option maxHeartbeats 4000000 in
set_option maxRecDepth 100000 in
theorem t_b_L_law_1183 {K : Cx} {out : Int32} {sc : Nat × (Nat → Int32)} (O : Ok K "RailSequenceLaw" code 9 room_1) (Z : ∀ (cs ss : Nat) (pc : Nat) (L : List (Option Value)) (h : MH), cs ≤ 601024 → ss ≤ 7293034 → decode code pc = .ok (.ireturn, 1) → EE K (false, cs, ss) pc L [.int 1] h) (hsc : gro K.1 0 = sc) (hout : out = 1) {cs ss : Nat} (hcs : cs + 1 ≤ 601024) (hss : ss + 6 ≤ 7293034) (rec23 : MH → Nat → Nat → Nat → Int32 → Option Int32) (hr23 : ∀ (h : MH) (x1 : Nat) (x2 : Nat) (x3 : Nat) (x4 : Int32), rec23 h x1 x2 x3 x4 = some out → EE K (false, cs + 1, ss + 6) 23 [some (.ref (RO + 0)), some (.ref x1), some (.ref x2), some (.ref x3), some (.int x4), none, none, none, none] [] h) (h : MH) (x1 : Nat) (x2 : Nat) (x3 : Nat) (x4 : Int32) (hf : b_L_law_1183 sc rec23 h x1 x2 x3 x4 = some out) : EE K (false, cs + 1, ss + 6) 1183 [some (.ref (RO + 0)), some (.ref x1), some (.ref x2), some (.ref x3), some (.int x4), none, none, none, none] [] h := by
  unfold b_L_law_1183 at hf
  refine E_goto (pc := 1183) O 1515 dL_law_1183 (by decide) ?_
  refine E_widen (cs := cs + 1) (ss := ss + 6) (by first | exact Nat.le_refl _ | exact Nat.le_add_right _ _) (by first | exact Nat.le_refl _ | exact Nat.le_add_right _ _) ?_
  exact t_b_L_law_1515 O Z hsc hout hcs hss _ hr23 h x1 x2 x3 x4 hf
set_option maxHeartbeats 4000000 in
set_option maxRecDepth 100000 in
theorem t_b_L_law_935 {K : Cx} {out : Int32} {sc : Nat × (Nat → Int32)} (O : Ok K "RailSequenceLaw" code 9 room_1) (Z : ∀ (cs ss : Nat) (pc : Nat) (L : List (Option Value)) (h : MH), cs ≤ 601024 → ss ≤ 7293034 → decode code pc = .ok (.ireturn, 1) → EE K (false, cs, ss) pc L [.int 1] h) (hsc : gro K.1 0 = sc) (hout : out = 1) {cs ss : Nat} (hcs : cs + 1 ≤ 601024) (hss : ss + 6 ≤ 7293034) (rec23 : MH → Nat → Nat → Nat → Int32 → Option Int32) (hr23 : ∀ (h : MH) (x1 : Nat) (x2 : Nat) (x3 : Nat) (x4 : Int32), rec23 h x1 x2 x3 x4 = some out → EE K (false, cs + 1, ss + 6) 23 [some (.ref (RO + 0)), some (.ref x1), some (.ref x2), some (.ref x3), some (.int x4), none, none, none, none] [] h) (h : MH) (x1 : Nat) (x2 : Nat) (x3 : Nat) (x4 : Int32) (hf : b_L_law_935 sc rec23 h x1 x2 x3 x4 = some out) : EE K (false, cs + 1, ss + 6) 935 [some (.ref (RO + 0)), some (.ref x1), some (.ref x2), some (.ref x3), some (.int x4), none, none, none, none] [] h := by
  unfold b_L_law_935 at hf
  refine E_goto (pc := 935) O 1515 dL_law_935 (by decide) ?_
  refine E_widen (cs := cs + 1) (ss := ss + 6) (by first | exact Nat.le_refl _ | exact Nat.le_add_right _ _) (by first | exact Nat.le_refl _ | exact Nat.le_add_right _ _) ?_
  exact t_b_L_law_1515 O Z hsc hout hcs hss _ hr23 h x1 x2 x3 x4 hf
set_option maxHeartbeats 4000000 in
set_option maxRecDepth 100000 in
theorem t_b_L_law_809 {K : Cx} {out : Int32} {sc : Nat × (Nat → Int32)} (O : Ok K "RailSequenceLaw" code 9 room_1) (Z : ∀ (cs ss : Nat) (pc : Nat) (L : List (Option Value)) (h : MH), cs ≤ 601024 → ss ≤ 7293034 → decode code pc = .ok (.ireturn, 1) → EE K (false, cs, ss) pc L [.int 1] h) (hsc : gro K.1 0 = sc) (hout : out = 1) {cs ss : Nat} (hcs : cs + 1 ≤ 601024) (hss : ss + 6 ≤ 7293034) (rec23 : MH → Nat → Nat → Nat → Int32 → Option Int32) (hr23 : ∀ (h : MH) (x1 : Nat) (x2 : Nat) (x3 : Nat) (x4 : Int32), rec23 h x1 x2 x3 x4 = some out → EE K (false, cs + 1, ss + 6) 23 [some (.ref (RO + 0)), some (.ref x1), some (.ref x2), some (.ref x3), some (.int x4), none, none, none, none] [] h) (h : MH) (x1 : Nat) (x2 : Nat) (x3 : Nat) (x4 : Int32) (hf : b_L_law_809 sc rec23 h x1 x2 x3 x4 = some out) : EE K (false, cs + 1, ss + 6) 809 [some (.ref (RO + 0)), some (.ref x1), some (.ref x2), some (.ref x3), some (.int x4), none, none, none, none] [] h := by
  unfold b_L_law_809 at hf
  refine E_goto (pc := 809) O 1515 dL_law_809 (by decide) ?_
  refine E_widen (cs := cs + 1) (ss := ss + 6) (by first | exact Nat.le_refl _ | exact Nat.le_add_right _ _) (by first | exact Nat.le_refl _ | exact Nat.le_add_right _ _) ?_
  exact t_b_L_law_1515 O Z hsc hout hcs hss _ hr23 h x1 x2 x3 x4 hf
set_option maxHeartbeats 4000000 in
set_option maxRecDepth 100000 in
theorem t_b_L_law_685 {K : Cx} {out : Int32} {sc : Nat × (Nat → Int32)} (O : Ok K "RailSequenceLaw" code 9 room_1) (Z : ∀ (cs ss : Nat) (pc : Nat) (L : List (Option Value)) (h : MH), cs ≤ 601024 → ss ≤ 7293034 → decode code pc = .ok (.ireturn, 1) → EE K (false, cs, ss) pc L [.int 1] h) (hsc : gro K.1 0 = sc) (hout : out = 1) {cs ss : Nat} (hcs : cs + 1 ≤ 601024) (hss : ss + 6 ≤ 7293034) (rec23 : MH → Nat → Nat → Nat → Int32 → Option Int32) (hr23 : ∀ (h : MH) (x1 : Nat) (x2 : Nat) (x3 : Nat) (x4 : Int32), rec23 h x1 x2 x3 x4 = some out → EE K (false, cs + 1, ss + 6) 23 [some (.ref (RO + 0)), some (.ref x1), some (.ref x2), some (.ref x3), some (.int x4), none, none, none, none] [] h) (h : MH) (x1 : Nat) (x2 : Nat) (x3 : Nat) (x4 : Int32) (hf : b_L_law_685 sc rec23 h x1 x2 x3 x4 = some out) : EE K (false, cs + 1, ss + 6) 685 [some (.ref (RO + 0)), some (.ref x1), some (.ref x2), some (.ref x3), some (.int x4), none, none, none, none] [] h := by
  unfold b_L_law_685 at hf
  refine E_goto (pc := 685) O 1515 dL_law_685 (by decide) ?_
  refine E_widen (cs := cs + 1) (ss := ss + 6) (by first | exact Nat.le_refl _ | exact Nat.le_add_right _ _) (by first | exact Nat.le_refl _ | exact Nat.le_add_right _ _) ?_
  exact t_b_L_law_1515 O Z hsc hout hcs hss _ hr23 h x1 x2 x3 x4 hf
set_option maxHeartbeats 4000000 in
set_option maxRecDepth 100000 in
theorem t_b_L_law_1457 {K : Cx} {out : Int32} {sc : Nat × (Nat → Int32)} (O : Ok K "RailSequenceLaw" code 9 room_1) (Z : ∀ (cs ss : Nat) (pc : Nat) (L : List (Option Value)) (h : MH), cs ≤ 601024 → ss ≤ 7293034 → decode code pc = .ok (.ireturn, 1) → EE K (false, cs, ss) pc L [.int 1] h) (hsc : gro K.1 0 = sc) (hout : out = 1) {cs ss : Nat} (hcs : cs + 1 ≤ 601024) (hss : ss + 6 ≤ 7293034) (rec23 : MH → Nat → Nat → Nat → Int32 → Option Int32) (hr23 : ∀ (h : MH) (x1 : Nat) (x2 : Nat) (x3 : Nat) (x4 : Int32), rec23 h x1 x2 x3 x4 = some out → EE K (false, cs + 1, ss + 6) 23 [some (.ref (RO + 0)), some (.ref x1), some (.ref x2), some (.ref x3), some (.int x4), none, none, none, none] [] h) (h : MH) (x1 : Nat) (x2 : Nat) (x3 : Nat) (x4 : Int32) (hf : b_L_law_1457 sc rec23 h x1 x2 x3 x4 = some out) : EE K (false, cs + 1, ss + 6) 1457 [some (.ref (RO + 0)), some (.ref x1), some (.ref x2), some (.ref x3), some (.int x4), none, none, none, none] [] h := by
  unfold b_L_law_1457 at hf
  refine E_goto (pc := 1457) O 1515 dL_law_1457 (by decide) ?_
  refine E_widen (cs := cs + 1) (ss := ss + 6) (by first | exact Nat.le_refl _ | exact Nat.le_add_right _ _) (by first | exact Nat.le_refl _ | exact Nat.le_add_right _ _) ?_
  exact t_b_L_law_1515 O Z hsc hout hcs hss _ hr23 h x1 x2 x3 x4 hf
set_option maxHeartbeats 4000000 in
set_option maxRecDepth 100000 in
theorem t_b_L_law_561 {K : Cx} {out : Int32} {sc : Nat × (Nat → Int32)} (O : Ok K "RailSequenceLaw" code 9 room_1) (Z : ∀ (cs ss : Nat) (pc : Nat) (L : List (Option Value)) (h : MH), cs ≤ 601024 → ss ≤ 7293034 → decode code pc = .ok (.ireturn, 1) → EE K (false, cs, ss) pc L [.int 1] h) (hsc : gro K.1 0 = sc) (hout : out = 1) {cs ss : Nat} (hcs : cs + 1 ≤ 601024) (hss : ss + 6 ≤ 7293034) (rec23 : MH → Nat → Nat → Nat → Int32 → Option Int32) (hr23 : ∀ (h : MH) (x1 : Nat) (x2 : Nat) (x3 : Nat) (x4 : Int32), rec23 h x1 x2 x3 x4 = some out → EE K (false, cs + 1, ss + 6) 23 [some (.ref (RO + 0)), some (.ref x1), some (.ref x2), some (.ref x3), some (.int x4), none, none, none, none] [] h) (h : MH) (x1 : Nat) (x2 : Nat) (x3 : Nat) (x4 : Int32) (hf : b_L_law_561 sc rec23 h x1 x2 x3 x4 = some out) : EE K (false, cs + 1, ss + 6) 561 [some (.ref (RO + 0)), some (.ref x1), some (.ref x2), some (.ref x3), some (.int x4), none, none, none, none] [] h := by
  unfold b_L_law_561 at hf
  refine E_goto (pc := 561) O 1515 dL_law_561 (by decide) ?_
  refine E_widen (cs := cs + 1) (ss := ss + 6) (by first | exact Nat.le_refl _ | exact Nat.le_add_right _ _) (by first | exact Nat.le_refl _ | exact Nat.le_add_right _ _) ?_
  exact t_b_L_law_1515 O Z hsc hout hcs hss _ hr23 h x1 x2 x3 x4 hf
set_option maxHeartbeats 4000000 in
set_option maxRecDepth 100000 in
theorem t_b_L_law_449 {K : Cx} {out : Int32} {sc : Nat × (Nat → Int32)} (O : Ok K "RailSequenceLaw" code 9 room_1) (Z : ∀ (cs ss : Nat) (pc : Nat) (L : List (Option Value)) (h : MH), cs ≤ 601024 → ss ≤ 7293034 → decode code pc = .ok (.ireturn, 1) → EE K (false, cs, ss) pc L [.int 1] h) (hsc : gro K.1 0 = sc) (hout : out = 1) {cs ss : Nat} (hcs : cs + 1 ≤ 601024) (hss : ss + 6 ≤ 7293034) (rec23 : MH → Nat → Nat → Nat → Int32 → Option Int32) (hr23 : ∀ (h : MH) (x1 : Nat) (x2 : Nat) (x3 : Nat) (x4 : Int32), rec23 h x1 x2 x3 x4 = some out → EE K (false, cs + 1, ss + 6) 23 [some (.ref (RO + 0)), some (.ref x1), some (.ref x2), some (.ref x3), some (.int x4), none, none, none, none] [] h) (h : MH) (x1 : Nat) (x2 : Nat) (x3 : Nat) (x4 : Int32) (hf : b_L_law_449 sc rec23 h x1 x2 x3 x4 = some out) : EE K (false, cs + 1, ss + 6) 449 [some (.ref (RO + 0)), some (.ref x1), some (.ref x2), some (.ref x3), some (.int x4), none, none, none, none] [] h := by
  unfold b_L_law_449 at hf
  refine E_goto (pc := 449) O 1515 dL_law_449 (by decide) ?_
  refine E_widen (cs := cs + 1) (ss := ss + 6) (by first | exact Nat.le_refl _ | exact Nat.le_add_right _ _) (by first | exact Nat.le_refl _ | exact Nat.le_add_right _ _) ?_
  exact t_b_L_law_1515 O Z hsc hout hcs hss _ hr23 h x1 x2 x3 x4 hf
set_option maxHeartbeats 4000000 in
set_option maxRecDepth 100000 in
theorem t_b_L_law_325 {K : Cx} {out : Int32} {sc : Nat × (Nat → Int32)} (O : Ok K "RailSequenceLaw" code 9 room_1) (Z : ∀ (cs ss : Nat) (pc : Nat) (L : List (Option Value)) (h : MH), cs ≤ 601024 → ss ≤ 7293034 → decode code pc = .ok (.ireturn, 1) → EE K (false, cs, ss) pc L [.int 1] h) (hsc : gro K.1 0 = sc) (hout : out = 1) {cs ss : Nat} (hcs : cs + 1 ≤ 601024) (hss : ss + 6 ≤ 7293034) (rec23 : MH → Nat → Nat → Nat → Int32 → Option Int32) (hr23 : ∀ (h : MH) (x1 : Nat) (x2 : Nat) (x3 : Nat) (x4 : Int32), rec23 h x1 x2 x3 x4 = some out → EE K (false, cs + 1, ss + 6) 23 [some (.ref (RO + 0)), some (.ref x1), some (.ref x2), some (.ref x3), some (.int x4), none, none, none, none] [] h) (h : MH) (x1 : Nat) (x2 : Nat) (x3 : Nat) (x4 : Int32) (hf : b_L_law_325 sc rec23 h x1 x2 x3 x4 = some out) : EE K (false, cs + 1, ss + 6) 325 [some (.ref (RO + 0)), some (.ref x1), some (.ref x2), some (.ref x3), some (.int x4), none, none, none, none] [] h := by
  unfold b_L_law_325 at hf
  refine E_goto (pc := 325) O 1515 dL_law_325 (by decide) ?_
  refine E_widen (cs := cs + 1) (ss := ss + 6) (by first | exact Nat.le_refl _ | exact Nat.le_add_right _ _) (by first | exact Nat.le_refl _ | exact Nat.le_add_right _ _) ?_
  exact t_b_L_law_1515 O Z hsc hout hcs hss _ hr23 h x1 x2 x3 x4 hf
set_option maxHeartbeats 4000000 in
set_option maxRecDepth 100000 in
theorem t_b_L_law_979 {K : Cx} {out : Int32} {sc : Nat × (Nat → Int32)} (O : Ok K "RailSequenceLaw" code 9 room_1) (Z : ∀ (cs ss : Nat) (pc : Nat) (L : List (Option Value)) (h : MH), cs ≤ 601024 → ss ≤ 7293034 → decode code pc = .ok (.ireturn, 1) → EE K (false, cs, ss) pc L [.int 1] h) (hsc : gro K.1 0 = sc) (hout : out = 1) {cs ss : Nat} (hcs : cs + 1 ≤ 601024) (hss : ss + 6 ≤ 7293034) (rec23 : MH → Nat → Nat → Nat → Int32 → Option Int32) (hr23 : ∀ (h : MH) (x1 : Nat) (x2 : Nat) (x3 : Nat) (x4 : Int32), rec23 h x1 x2 x3 x4 = some out → EE K (false, cs + 1, ss + 6) 23 [some (.ref (RO + 0)), some (.ref x1), some (.ref x2), some (.ref x3), some (.int x4), none, none, none, none] [] h) (h : MH) (x1 : Nat) (x2 : Nat) (x3 : Nat) (x4 : Int32) (hf : b_L_law_979 sc rec23 h x1 x2 x3 x4 = some out) : EE K (false, cs + 1, ss + 6) 979 [some (.ref (RO + 0)), some (.ref x1), some (.ref x2), some (.ref x3), some (.int x4), none, none, none, none] [] h := by
  unfold b_L_law_979 at hf
  refine E_goto (pc := 979) O 1515 dL_law_979 (by decide) ?_
  refine E_widen (cs := cs + 1) (ss := ss + 6) (by first | exact Nat.le_refl _ | exact Nat.le_add_right _ _) (by first | exact Nat.le_refl _ | exact Nat.le_add_right _ _) ?_
  exact t_b_L_law_1515 O Z hsc hout hcs hss _ hr23 h x1 x2 x3 x4 hf
set_option maxHeartbeats 4000000 in
set_option maxRecDepth 100000 in
theorem t_b_L_law_1239 {K : Cx} {out : Int32} {sc : Nat × (Nat → Int32)} (O : Ok K "RailSequenceLaw" code 9 room_1) (Z : ∀ (cs ss : Nat) (pc : Nat) (L : List (Option Value)) (h : MH), cs ≤ 601024 → ss ≤ 7293034 → decode code pc = .ok (.ireturn, 1) → EE K (false, cs, ss) pc L [.int 1] h) (hsc : gro K.1 0 = sc) (hout : out = 1) {cs ss : Nat} (hcs : cs + 1 ≤ 601024) (hss : ss + 6 ≤ 7293034) (rec23 : MH → Nat → Nat → Nat → Int32 → Option Int32) (hr23 : ∀ (h : MH) (x1 : Nat) (x2 : Nat) (x3 : Nat) (x4 : Int32), rec23 h x1 x2 x3 x4 = some out → EE K (false, cs + 1, ss + 6) 23 [some (.ref (RO + 0)), some (.ref x1), some (.ref x2), some (.ref x3), some (.int x4), none, none, none, none] [] h) (h : MH) (x1 : Nat) (x2 : Nat) (x3 : Nat) (x4 : Int32) (hf : b_L_law_1239 sc rec23 h x1 x2 x3 x4 = some out) : EE K (false, cs + 1, ss + 6) 1239 [some (.ref (RO + 0)), some (.ref x1), some (.ref x2), some (.ref x3), some (.int x4), none, none, none, none] [] h := by
  unfold b_L_law_1239 at hf
  refine E_goto (pc := 1239) O 1515 dL_law_1239 (by decide) ?_
  refine E_widen (cs := cs + 1) (ss := ss + 6) (by first | exact Nat.le_refl _ | exact Nat.le_add_right _ _) (by first | exact Nat.le_refl _ | exact Nat.le_add_right _ _) ?_
  exact t_b_L_law_1515 O Z hsc hout hcs hss _ hr23 h x1 x2 x3 x4 hf
set_option maxHeartbeats 4000000 in
set_option maxRecDepth 100000 in
theorem t_b_L_law_1496 {K : Cx} {out : Int32} {sc : Nat × (Nat → Int32)} (O : Ok K "RailSequenceLaw" code 9 room_1) (Z : ∀ (cs ss : Nat) (pc : Nat) (L : List (Option Value)) (h : MH), cs ≤ 601024 → ss ≤ 7293034 → decode code pc = .ok (.ireturn, 1) → EE K (false, cs, ss) pc L [.int 1] h) (hsc : gro K.1 0 = sc) (hout : out = 1) {cs ss : Nat} (hcs : cs + 1 ≤ 601024) (hss : ss + 6 ≤ 7293034) (h : MH) (hf : b_L_law_1496 sc h = some out) : EE K (false, cs + 1, ss + 6) 1496 [none, none, none, none, none, none, none, none, none] [] h := by
  unfold b_L_law_1496 at hf
  refine E_iconst (pc := 1496) O (0 : Int32) dL_law_1496 (by decide) ?_
  exact absurd (os hf) (by rw [hout]; decide)
set_option maxHeartbeats 4000000 in
set_option maxRecDepth 100000 in
theorem t_b_L_law_1498 {K : Cx} {out : Int32} {sc : Nat × (Nat → Int32)} (O : Ok K "RailSequenceLaw" code 9 room_1) (Z : ∀ (cs ss : Nat) (pc : Nat) (L : List (Option Value)) (h : MH), cs ≤ 601024 → ss ≤ 7293034 → decode code pc = .ok (.ireturn, 1) → EE K (false, cs, ss) pc L [.int 1] h) (hsc : gro K.1 0 = sc) (hout : out = 1) {cs ss : Nat} (hcs : cs + 1 ≤ 601024) (hss : ss + 6 ≤ 7293034) (rec23 : MH → Nat → Nat → Nat → Int32 → Option Int32) (hr23 : ∀ (h : MH) (x1 : Nat) (x2 : Nat) (x3 : Nat) (x4 : Int32), rec23 h x1 x2 x3 x4 = some out → EE K (false, cs + 1, ss + 6) 23 [some (.ref (RO + 0)), some (.ref x1), some (.ref x2), some (.ref x3), some (.int x4), none, none, none, none] [] h) (h : MH) (x1 : Nat) (x2 : Nat) (x3 : Nat) (x4 : Int32) (hf : b_L_law_1498 sc rec23 h x1 x2 x3 x4 = some out) : EE K (false, cs + 1, ss + 6) 1498 [some (.ref (RO + 0)), some (.ref x1), some (.ref x2), some (.ref x3), some (.int x4), none, none, none, none] [] h := by
  unfold b_L_law_1498 at hf
  refine E_goto (pc := 1498) O 1515 dL_law_1498 (by decide) ?_
  refine E_widen (cs := cs + 1) (ss := ss + 6) (by first | exact Nat.le_refl _ | exact Nat.le_add_right _ _) (by first | exact Nat.le_refl _ | exact Nat.le_add_right _ _) ?_
  exact t_b_L_law_1515 O Z hsc hout hcs hss _ hr23 h x1 x2 x3 x4 hf
set_option maxHeartbeats 4000000 in
set_option maxRecDepth 100000 in
theorem t_b_L_law_1115 {K : Cx} {out : Int32} {sc : Nat × (Nat → Int32)} (O : Ok K "RailSequenceLaw" code 9 room_1) (Z : ∀ (cs ss : Nat) (pc : Nat) (L : List (Option Value)) (h : MH), cs ≤ 601024 → ss ≤ 7293034 → decode code pc = .ok (.ireturn, 1) → EE K (false, cs, ss) pc L [.int 1] h) (hsc : gro K.1 0 = sc) (hout : out = 1) {cs ss : Nat} (hcs : cs + 1 ≤ 601024) (hss : ss + 6 ≤ 7293034) (rec23 : MH → Nat → Nat → Nat → Int32 → Option Int32) (hr23 : ∀ (h : MH) (x1 : Nat) (x2 : Nat) (x3 : Nat) (x4 : Int32), rec23 h x1 x2 x3 x4 = some out → EE K (false, cs + 1, ss + 6) 23 [some (.ref (RO + 0)), some (.ref x1), some (.ref x2), some (.ref x3), some (.int x4), none, none, none, none] [] h) (h : MH) (x1 : Nat) (x2 : Nat) (x3 : Nat) (x4 : Int32) (hf : b_L_law_1115 sc rec23 h x1 x2 x3 x4 = some out) : EE K (false, cs + 1, ss + 6) 1115 [some (.ref (RO + 0)), some (.ref x1), some (.ref x2), some (.ref x3), some (.int x4), none, none, none, none] [] h := by
  unfold b_L_law_1115 at hf
  refine E_goto (pc := 1115) O 1515 dL_law_1115 (by decide) ?_
  refine E_widen (cs := cs + 1) (ss := ss + 6) (by first | exact Nat.le_refl _ | exact Nat.le_add_right _ _) (by first | exact Nat.le_refl _ | exact Nat.le_add_right _ _) ?_
  exact t_b_L_law_1515 O Z hsc hout hcs hss _ hr23 h x1 x2 x3 x4 hf
set_option maxHeartbeats 4000000 in
set_option maxRecDepth 100000 in
theorem t_b_L_law_865 {K : Cx} {out : Int32} {sc : Nat × (Nat → Int32)} (O : Ok K "RailSequenceLaw" code 9 room_1) (Z : ∀ (cs ss : Nat) (pc : Nat) (L : List (Option Value)) (h : MH), cs ≤ 601024 → ss ≤ 7293034 → decode code pc = .ok (.ireturn, 1) → EE K (false, cs, ss) pc L [.int 1] h) (hsc : gro K.1 0 = sc) (hout : out = 1) {cs ss : Nat} (hcs : cs + 1 ≤ 601024) (hss : ss + 6 ≤ 7293034) (rec23 : MH → Nat → Nat → Nat → Int32 → Option Int32) (hr23 : ∀ (h : MH) (x1 : Nat) (x2 : Nat) (x3 : Nat) (x4 : Int32), rec23 h x1 x2 x3 x4 = some out → EE K (false, cs + 1, ss + 6) 23 [some (.ref (RO + 0)), some (.ref x1), some (.ref x2), some (.ref x3), some (.int x4), none, none, none, none] [] h) (h : MH) (x1 : Nat) (x2 : Nat) (x3 : Nat) (x4 : Int32) (hf : b_L_law_865 sc rec23 h x1 x2 x3 x4 = some out) : EE K (false, cs + 1, ss + 6) 865 [some (.ref (RO + 0)), some (.ref x1), some (.ref x2), some (.ref x3), some (.int x4), none, none, none, none] [] h := by
  unfold b_L_law_865 at hf
  refine E_goto (pc := 865) O 1515 dL_law_865 (by decide) ?_
  refine E_widen (cs := cs + 1) (ss := ss + 6) (by first | exact Nat.le_refl _ | exact Nat.le_add_right _ _) (by first | exact Nat.le_refl _ | exact Nat.le_add_right _ _) ?_
  exact t_b_L_law_1515 O Z hsc hout hcs hss _ hr23 h x1 x2 x3 x4 hf
set_option maxHeartbeats 4000000 in
set_option maxRecDepth 100000 in
theorem t_b_L_law_617 {K : Cx} {out : Int32} {sc : Nat × (Nat → Int32)} (O : Ok K "RailSequenceLaw" code 9 room_1) (Z : ∀ (cs ss : Nat) (pc : Nat) (L : List (Option Value)) (h : MH), cs ≤ 601024 → ss ≤ 7293034 → decode code pc = .ok (.ireturn, 1) → EE K (false, cs, ss) pc L [.int 1] h) (hsc : gro K.1 0 = sc) (hout : out = 1) {cs ss : Nat} (hcs : cs + 1 ≤ 601024) (hss : ss + 6 ≤ 7293034) (rec23 : MH → Nat → Nat → Nat → Int32 → Option Int32) (hr23 : ∀ (h : MH) (x1 : Nat) (x2 : Nat) (x3 : Nat) (x4 : Int32), rec23 h x1 x2 x3 x4 = some out → EE K (false, cs + 1, ss + 6) 23 [some (.ref (RO + 0)), some (.ref x1), some (.ref x2), some (.ref x3), some (.int x4), none, none, none, none] [] h) (h : MH) (x1 : Nat) (x2 : Nat) (x3 : Nat) (x4 : Int32) (hf : b_L_law_617 sc rec23 h x1 x2 x3 x4 = some out) : EE K (false, cs + 1, ss + 6) 617 [some (.ref (RO + 0)), some (.ref x1), some (.ref x2), some (.ref x3), some (.int x4), none, none, none, none] [] h := by
  unfold b_L_law_617 at hf
  refine E_goto (pc := 617) O 1515 dL_law_617 (by decide) ?_
  refine E_widen (cs := cs + 1) (ss := ss + 6) (by first | exact Nat.le_refl _ | exact Nat.le_add_right _ _) (by first | exact Nat.le_refl _ | exact Nat.le_add_right _ _) ?_
  exact t_b_L_law_1515 O Z hsc hout hcs hss _ hr23 h x1 x2 x3 x4 hf
set_option maxHeartbeats 4000000 in
set_option maxRecDepth 100000 in
theorem t_b_L_law_753 {K : Cx} {out : Int32} {sc : Nat × (Nat → Int32)} (O : Ok K "RailSequenceLaw" code 9 room_1) (Z : ∀ (cs ss : Nat) (pc : Nat) (L : List (Option Value)) (h : MH), cs ≤ 601024 → ss ≤ 7293034 → decode code pc = .ok (.ireturn, 1) → EE K (false, cs, ss) pc L [.int 1] h) (hsc : gro K.1 0 = sc) (hout : out = 1) {cs ss : Nat} (hcs : cs + 1 ≤ 601024) (hss : ss + 6 ≤ 7293034) (rec23 : MH → Nat → Nat → Nat → Int32 → Option Int32) (hr23 : ∀ (h : MH) (x1 : Nat) (x2 : Nat) (x3 : Nat) (x4 : Int32), rec23 h x1 x2 x3 x4 = some out → EE K (false, cs + 1, ss + 6) 23 [some (.ref (RO + 0)), some (.ref x1), some (.ref x2), some (.ref x3), some (.int x4), none, none, none, none] [] h) (h : MH) (x1 : Nat) (x2 : Nat) (x3 : Nat) (x4 : Int32) (hf : b_L_law_753 sc rec23 h x1 x2 x3 x4 = some out) : EE K (false, cs + 1, ss + 6) 753 [some (.ref (RO + 0)), some (.ref x1), some (.ref x2), some (.ref x3), some (.int x4), none, none, none, none] [] h := by
  unfold b_L_law_753 at hf
  refine E_goto (pc := 753) O 1515 dL_law_753 (by decide) ?_
  refine E_widen (cs := cs + 1) (ss := ss + 6) (by first | exact Nat.le_refl _ | exact Nat.le_add_right _ _) (by first | exact Nat.le_refl _ | exact Nat.le_add_right _ _) ?_
  exact t_b_L_law_1515 O Z hsc hout hcs hss _ hr23 h x1 x2 x3 x4 hf
set_option maxHeartbeats 4000000 in
set_option maxRecDepth 100000 in
theorem t_b_L_law_245 {K : Cx} {out : Int32} {sc : Nat × (Nat → Int32)} (O : Ok K "RailSequenceLaw" code 9 room_1) (Z : ∀ (cs ss : Nat) (pc : Nat) (L : List (Option Value)) (h : MH), cs ≤ 601024 → ss ≤ 7293034 → decode code pc = .ok (.ireturn, 1) → EE K (false, cs, ss) pc L [.int 1] h) (hsc : gro K.1 0 = sc) (hout : out = 1) {cs ss : Nat} (hcs : cs + 1 ≤ 601024) (hss : ss + 6 ≤ 7293034) (rec23 : MH → Nat → Nat → Nat → Int32 → Option Int32) (hr23 : ∀ (h : MH) (x1 : Nat) (x2 : Nat) (x3 : Nat) (x4 : Int32), rec23 h x1 x2 x3 x4 = some out → EE K (false, cs + 1, ss + 6) 23 [some (.ref (RO + 0)), some (.ref x1), some (.ref x2), some (.ref x3), some (.int x4), none, none, none, none] [] h) (h : MH) (x1 : Nat) (x2 : Nat) (x3 : Nat) (x4 : Int32) (hf : b_L_law_245 sc rec23 h x1 x2 x3 x4 = some out) : EE K (false, cs + 1, ss + 6) 245 [some (.ref (RO + 0)), some (.ref x1), some (.ref x2), some (.ref x3), some (.int x4), none, none, none, none] [] h := by
  unfold b_L_law_245 at hf
  refine E_goto (pc := 245) O 1515 dL_law_245 (by decide) ?_
  refine E_widen (cs := cs + 1) (ss := ss + 6) (by first | exact Nat.le_refl _ | exact Nat.le_add_right _ _) (by first | exact Nat.le_refl _ | exact Nat.le_add_right _ _) ?_
  exact t_b_L_law_1515 O Z hsc hout hcs hss _ hr23 h x1 x2 x3 x4 hf
set_option maxHeartbeats 4000000 in
set_option maxRecDepth 100000 in
theorem t_b_L_law_505 {K : Cx} {out : Int32} {sc : Nat × (Nat → Int32)} (O : Ok K "RailSequenceLaw" code 9 room_1) (Z : ∀ (cs ss : Nat) (pc : Nat) (L : List (Option Value)) (h : MH), cs ≤ 601024 → ss ≤ 7293034 → decode code pc = .ok (.ireturn, 1) → EE K (false, cs, ss) pc L [.int 1] h) (hsc : gro K.1 0 = sc) (hout : out = 1) {cs ss : Nat} (hcs : cs + 1 ≤ 601024) (hss : ss + 6 ≤ 7293034) (rec23 : MH → Nat → Nat → Nat → Int32 → Option Int32) (hr23 : ∀ (h : MH) (x1 : Nat) (x2 : Nat) (x3 : Nat) (x4 : Int32), rec23 h x1 x2 x3 x4 = some out → EE K (false, cs + 1, ss + 6) 23 [some (.ref (RO + 0)), some (.ref x1), some (.ref x2), some (.ref x3), some (.int x4), none, none, none, none] [] h) (h : MH) (x1 : Nat) (x2 : Nat) (x3 : Nat) (x4 : Int32) (hf : b_L_law_505 sc rec23 h x1 x2 x3 x4 = some out) : EE K (false, cs + 1, ss + 6) 505 [some (.ref (RO + 0)), some (.ref x1), some (.ref x2), some (.ref x3), some (.int x4), none, none, none, none] [] h := by
  unfold b_L_law_505 at hf
  refine E_goto (pc := 505) O 1515 dL_law_505 (by decide) ?_
  refine E_widen (cs := cs + 1) (ss := ss + 6) (by first | exact Nat.le_refl _ | exact Nat.le_add_right _ _) (by first | exact Nat.le_refl _ | exact Nat.le_add_right _ _) ?_
  exact t_b_L_law_1515 O Z hsc hout hcs hss _ hr23 h x1 x2 x3 x4 hf
set_option maxHeartbeats 4000000 in
set_option maxRecDepth 100000 in
theorem t_b_L_law_23 {K : Cx} {out : Int32} {sc : Nat × (Nat → Int32)} (O : Ok K "RailSequenceLaw" code 9 room_1) (Z : ∀ (cs ss : Nat) (pc : Nat) (L : List (Option Value)) (h : MH), cs ≤ 601024 → ss ≤ 7293034 → decode code pc = .ok (.ireturn, 1) → EE K (false, cs, ss) pc L [.int 1] h) (hsc : gro K.1 0 = sc) (hout : out = 1) {cs ss : Nat} (hcs : cs + 1 ≤ 601024) (hss : ss + 6 ≤ 7293034) (rec23 : MH → Nat → Nat → Nat → Int32 → Option Int32) (hr23 : ∀ (h : MH) (x1 : Nat) (x2 : Nat) (x3 : Nat) (x4 : Int32), rec23 h x1 x2 x3 x4 = some out → EE K (false, cs + 1, ss + 6) 23 [some (.ref (RO + 0)), some (.ref x1), some (.ref x2), some (.ref x3), some (.int x4), none, none, none, none] [] h) (h : MH) (x1 : Nat) (x2 : Nat) (x3 : Nat) (x4 : Int32) (hf : b_L_law_23 sc rec23 h x1 x2 x3 x4 = some out) : EE K (false, cs, ss) 23 [some (.ref (RO + 0)), some (.ref x1), some (.ref x2), some (.ref x3), some (.int x4), none, none, none, none] [] h := by
  unfold b_L_law_23 at hf
  refine E_iload (pc := 23) O dL_law_23 rfl ?_
  refine E_aload_n (pc := 25) O 0 dL_law_25 rfl rfl ?_
  refine E_alenRO (pc := 26) (i := 0) (n := sc.1) (xs := sc.2) O (by decide) hsc dL_law_26 ?_
  refine E_iconst (pc := 27) O (5 : Int32) dL_law_27 (by decide) ?_
  refine E_isub (pc := 28) O dL_law_28 ?_
  refine E_icmp_gt (pc := 29) O 1521 dL_law_29 (by decide) hf (fun hf => ?_) (fun hf => ?_)
  · refine E_iconst (pc := 1521) O (1 : Int32) dL_law_1521 (by decide) ?_
    exact Z _ _ _ _ _ (by omega) (by omega) dL_law_1522
  · refine E_aload_n (pc := 32) O 0 dL_law_32 rfl rfl ?_
    refine E_iload (pc := 33) O dL_law_33 rfl ?_
    refine E_ialoadRO (pc := 35) (i := 0) (n := sc.1) (xs := sc.2) O (by decide) hsc dL_law_35 hf (fun v1 hf => ?_)
    refine E_bipush (pc := 36) O (31 : Int32) dL_law_36 (by decide) ?_
    refine E_iand (pc := 38) O dL_law_38 ?_
    refine E_ite hf (fun c39 hf => ?_) (fun n39_0 hf => ?_)
    · refine E_tswIn (pc := 39) (off := 117) O 0 156 c39 dL_law_39 (by decide) (by decide) (by decide) (by decide) ?_
      refine E_aload_n (pc := 156) O 1 dL_law_156 rfl rfl ?_
      refine E_aload_n (pc := 157) O 0 dL_law_157 rfl rfl ?_
      refine E_iload (pc := 158) O dL_law_158 rfl ?_
      refine E_iconst (pc := 160) O (1 : Int32) dL_law_160 (by decide) ?_
      refine E_iadd (pc := 161) O dL_law_161 ?_
      refine E_ialoadRO (pc := 162) (i := 0) (n := sc.1) (xs := sc.2) O (by decide) hsc dL_law_162 hf (fun v2 hf => ?_)
      refine E_aload_n (pc := 163) O 0 dL_law_163 rfl rfl ?_
      refine E_iload (pc := 164) O dL_law_164 rfl ?_
      refine E_iconst (pc := 166) O (2 : Int32) dL_law_166 (by decide) ?_
      refine E_iadd (pc := 167) O dL_law_167 ?_
      refine E_ialoadRO (pc := 168) (i := 0) (n := sc.1) (xs := sc.2) O (by decide) hsc dL_law_168 hf (fun v3 hf => ?_)
      refine E_aload_n (pc := 169) O 0 dL_law_169 rfl rfl ?_
      refine E_iload (pc := 170) O dL_law_170 rfl ?_
      refine E_iconst (pc := 172) O (3 : Int32) dL_law_172 (by decide) ?_
      refine E_iadd (pc := 173) O dL_law_173 ?_
      refine E_ialoadRO (pc := 174) (i := 0) (n := sc.1) (xs := sc.2) O (by decide) hsc dL_law_174 hf (fun v4 hf => ?_)
      refine E_aload_n (pc := 175) O 0 dL_law_175 rfl rfl ?_
      refine E_iload (pc := 176) O dL_law_176 rfl ?_
      refine E_iconst (pc := 178) O (4 : Int32) dL_law_178 (by decide) ?_
      refine E_iadd (pc := 179) O dL_law_179 ?_
      refine E_ialoadRO (pc := 180) (i := 0) (n := sc.1) (xs := sc.2) O (by decide) hsc dL_law_180 hf (fun v5 hf => ?_)
      refine E_aload_n (pc := 181) O 3 dL_law_181 rfl rfl ?_
      refine E_callSW (pc := 182) (S := []) O [.ref x1, .int v2, .int v3, .int v4, .int v5, .ref x3] CW_RailSequenceLaw_84 (fun r e => t_L_addRail e) dL_law_182 hf rfl ⟨(Nat.le_of_ble_eq_true rfl), (Nat.le_of_ble_eq_true rfl)⟩ ⟨hcs, hss⟩ (Nat.le_of_ble_eq_true rfl) (fun p6 hf => ?_)
      show EE K (false, cs + 1, ss + 6) _ _ _ _
      refine E_istore (pc := 185) O [some (.ref (RO + 0)), some (.ref x1), some (.ref x2), some (.ref x3), some (.int x4), some (.int p6.1), none, none, none] dL_law_185 (by decide) rfl rfl ?_
      refine E_aload_n (pc := 187) O 2 dL_law_187 rfl rfl ?_
      refine E_aload_n (pc := 188) O 0 dL_law_188 rfl rfl ?_
      refine E_iload (pc := 189) O dL_law_189 rfl ?_
      refine E_iconst (pc := 191) O (1 : Int32) dL_law_191 (by decide) ?_
      refine E_iadd (pc := 192) O dL_law_192 ?_
      refine E_ialoadRO (pc := 193) (i := 0) (n := sc.1) (xs := sc.2) O (by decide) hsc dL_law_193 hf (fun v7 hf => ?_)
      refine E_aload_n (pc := 194) O 0 dL_law_194 rfl rfl ?_
      refine E_iload (pc := 195) O dL_law_195 rfl ?_
      refine E_iconst (pc := 197) O (2 : Int32) dL_law_197 (by decide) ?_
      refine E_iadd (pc := 198) O dL_law_198 ?_
      refine E_ialoadRO (pc := 199) (i := 0) (n := sc.1) (xs := sc.2) O (by decide) hsc dL_law_199 hf (fun v8 hf => ?_)
      refine E_aload_n (pc := 200) O 0 dL_law_200 rfl rfl ?_
      refine E_iload (pc := 201) O dL_law_201 rfl ?_
      refine E_iconst (pc := 203) O (3 : Int32) dL_law_203 (by decide) ?_
      refine E_iadd (pc := 204) O dL_law_204 ?_
      refine E_ialoadRO (pc := 205) (i := 0) (n := sc.1) (xs := sc.2) O (by decide) hsc dL_law_205 hf (fun v9 hf => ?_)
      refine E_aload_n (pc := 206) O 0 dL_law_206 rfl rfl ?_
      refine E_iload (pc := 207) O dL_law_207 rfl ?_
      refine E_iconst (pc := 209) O (4 : Int32) dL_law_209 (by decide) ?_
      refine E_iadd (pc := 210) O dL_law_210 ?_
      refine E_ialoadRO (pc := 211) (i := 0) (n := sc.1) (xs := sc.2) O (by decide) hsc dL_law_211 hf (fun v10 hf => ?_)
      refine E_callV_i (pc := 212) (S := []) O [.int v7, .int v8, .int v9, .int v10] CV_RailSequenceLaw_89 rfl (fun r e => t_X4_addRail e) dL_law_212 hf rfl ⟨(Nat.le_of_ble_eq_true rfl), (Nat.le_of_ble_eq_true rfl)⟩ (by first | exact ⟨hcs, hss⟩ | exact ⟨Nat.le_of_succ_le hcs, Nat.le_trans (Nat.le_add_right _ 6) hss⟩) (Nat.le_of_ble_eq_true rfl) (fun p11 hf => ?_)
      refine E_istore (pc := 215) O [some (.ref (RO + 0)), some (.ref x1), some (.ref x2), some (.ref x3), some (.int x4), some (.int p6.1), some (.int p11.1), none, none] dL_law_215 (by decide) rfl rfl ?_
      refine E_aload_n (pc := 217) O 2 dL_law_217 rfl rfl ?_
      refine E_callV_iP (pc := 218) (S := []) O [] CV_RailSequenceLaw_90 rfl (fun r e => t_X4_thrown e) dL_law_218 hf rfl ⟨(Nat.le_of_ble_eq_true rfl), (Nat.le_of_ble_eq_true rfl)⟩ (by first | exact ⟨hcs, hss⟩ | exact ⟨Nat.le_of_succ_le hcs, Nat.le_trans (Nat.le_add_right _ 6) hss⟩) (Nat.le_of_ble_eq_true rfl) (fun v12 hf => ?_)
      refine E_iload (pc := 221) O dL_law_221 rfl ?_
      refine E_icmp_eq (pc := 223) O 228 dL_law_223 (by decide) hf (fun hf => ?_) (fun hf => ?_)
      · refine E_iload (pc := 228) O dL_law_228 rfl ?_
        refine E_if_ne (pc := 230) O 245 dL_law_230 (by decide) hf (fun hf => ?_) (fun hf => ?_)
        · refine E_widen (cs := cs + 1) (ss := ss + 6) (by first | exact Nat.le_refl _ | exact Nat.le_add_right _ _) (by first | exact Nat.le_refl _ | exact Nat.le_add_right _ _) ?_
          exact E_sub (L' := [some (.ref (RO + 0)), some (.ref x1), some (.ref x2), some (.ref x3), some (.int x4), none, none, none, none]) (And.intro rfl (And.intro rfl (And.intro rfl (And.intro rfl (And.intro rfl True.intro))))) (t_b_L_law_245 O Z hsc hout hcs hss _ hr23 p11.2 x1 x2 x3 x4 hf)
        · refine E_aload_n (pc := 233) O 3 dL_law_233 rfl rfl ?_
          refine E_iconst (pc := 234) O (0 : Int32) dL_law_234 (by decide) ?_
          refine E_laload (pc := 235) O dL_law_235 hf (fun v13 hf => ?_)
          refine E_iload (pc := 236) O dL_law_236 rfl ?_
          refine E_i2l (pc := 238) O dL_law_238 ?_
          refine E_lcmp (pc := 239) O dL_law_239 ?_
          refine E_if_eq (pc := 240) O 245 dL_law_240 (by decide) hf (fun hf => ?_) (fun hf => ?_)
          · refine E_widen (cs := cs + 1) (ss := ss + 6) (by first | exact Nat.le_refl _ | exact Nat.le_add_right _ _) (by first | exact Nat.le_refl _ | exact Nat.le_add_right _ _) ?_
            exact E_sub (L' := [some (.ref (RO + 0)), some (.ref x1), some (.ref x2), some (.ref x3), some (.int x4), none, none, none, none]) (And.intro rfl (And.intro rfl (And.intro rfl (And.intro rfl (And.intro rfl True.intro))))) (t_b_L_law_245 O Z hsc hout hcs hss _ hr23 p11.2 x1 x2 x3 x4 hf)
          · refine E_iconst (pc := 243) O (0 : Int32) dL_law_243 (by decide) ?_
            exact absurd (os hf) (by rw [hout]; decide)
      · refine E_iconst (pc := 226) O (0 : Int32) dL_law_226 (by decide) ?_
        exact absurd (os hf) (by rw [hout]; decide)
    · refine E_ite hf (fun c39 hf => ?_) (fun n39_1 hf => ?_)
      · refine E_tswIn (pc := 39) (off := 209) O 1 248 c39 dL_law_39 (by decide) (by decide) (by decide) (by decide) ?_
        refine E_aload_n (pc := 248) O 1 dL_law_248 rfl rfl ?_
        refine E_aload_n (pc := 249) O 0 dL_law_249 rfl rfl ?_
        refine E_iload (pc := 250) O dL_law_250 rfl ?_
        refine E_iconst (pc := 252) O (1 : Int32) dL_law_252 (by decide) ?_
        refine E_iadd (pc := 253) O dL_law_253 ?_
        refine E_ialoadRO (pc := 254) (i := 0) (n := sc.1) (xs := sc.2) O (by decide) hsc dL_law_254 hf (fun v14 hf => ?_)
        refine E_aload_n (pc := 255) O 0 dL_law_255 rfl rfl ?_
        refine E_iload (pc := 256) O dL_law_256 rfl ?_
        refine E_iconst (pc := 258) O (2 : Int32) dL_law_258 (by decide) ?_
        refine E_iadd (pc := 259) O dL_law_259 ?_
        refine E_ialoadRO (pc := 260) (i := 0) (n := sc.1) (xs := sc.2) O (by decide) hsc dL_law_260 hf (fun v15 hf => ?_)
        refine E_aload_n (pc := 261) O 0 dL_law_261 rfl rfl ?_
        refine E_iload (pc := 262) O dL_law_262 rfl ?_
        refine E_iconst (pc := 264) O (3 : Int32) dL_law_264 (by decide) ?_
        refine E_iadd (pc := 265) O dL_law_265 ?_
        refine E_ialoadRO (pc := 266) (i := 0) (n := sc.1) (xs := sc.2) O (by decide) hsc dL_law_266 hf (fun v16 hf => ?_)
        refine E_aload_n (pc := 267) O 3 dL_law_267 rfl rfl ?_
        refine E_callSW (pc := 268) (S := []) O [.ref x1, .int v14, .int v15, .int v16, .ref x3] CW_RailSequenceLaw_93 (fun r e => t_L_set e) dL_law_268 hf rfl ⟨(Nat.le_of_ble_eq_true rfl), (Nat.le_of_ble_eq_true rfl)⟩ ⟨hcs, hss⟩ (Nat.le_of_ble_eq_true rfl) (fun p17 hf => ?_)
        show EE K (false, cs + 1, ss + 6) _ _ _ _
        refine E_istore (pc := 271) O [some (.ref (RO + 0)), some (.ref x1), some (.ref x2), some (.ref x3), some (.int x4), some (.int p17.1), none, none, none] dL_law_271 (by decide) rfl rfl ?_
        refine E_aload_n (pc := 273) O 2 dL_law_273 rfl rfl ?_
        refine E_aload_n (pc := 274) O 0 dL_law_274 rfl rfl ?_
        refine E_iload (pc := 275) O dL_law_275 rfl ?_
        refine E_iconst (pc := 277) O (1 : Int32) dL_law_277 (by decide) ?_
        refine E_iadd (pc := 278) O dL_law_278 ?_
        refine E_ialoadRO (pc := 279) (i := 0) (n := sc.1) (xs := sc.2) O (by decide) hsc dL_law_279 hf (fun v18 hf => ?_)
        refine E_aload_n (pc := 280) O 0 dL_law_280 rfl rfl ?_
        refine E_iload (pc := 281) O dL_law_281 rfl ?_
        refine E_iconst (pc := 283) O (2 : Int32) dL_law_283 (by decide) ?_
        refine E_iadd (pc := 284) O dL_law_284 ?_
        refine E_ialoadRO (pc := 285) (i := 0) (n := sc.1) (xs := sc.2) O (by decide) hsc dL_law_285 hf (fun v19 hf => ?_)
        refine E_aload_n (pc := 286) O 0 dL_law_286 rfl rfl ?_
        refine E_iload (pc := 287) O dL_law_287 rfl ?_
        refine E_iconst (pc := 289) O (3 : Int32) dL_law_289 (by decide) ?_
        refine E_iadd (pc := 290) O dL_law_290 ?_
        refine E_ialoadRO (pc := 291) (i := 0) (n := sc.1) (xs := sc.2) O (by decide) hsc dL_law_291 hf (fun v20 hf => ?_)
        refine E_callV_i (pc := 292) (S := []) O [.int v18, .int v19, .int v20] CV_RailSequenceLaw_96 rfl (fun r e => t_X4_set e) dL_law_292 hf rfl ⟨(Nat.le_of_ble_eq_true rfl), (Nat.le_of_ble_eq_true rfl)⟩ (by first | exact ⟨hcs, hss⟩ | exact ⟨Nat.le_of_succ_le hcs, Nat.le_trans (Nat.le_add_right _ 6) hss⟩) (Nat.le_of_ble_eq_true rfl) (fun p21 hf => ?_)
        refine E_istore (pc := 295) O [some (.ref (RO + 0)), some (.ref x1), some (.ref x2), some (.ref x3), some (.int x4), some (.int p17.1), some (.int p21.1), none, none] dL_law_295 (by decide) rfl rfl ?_
        refine E_aload_n (pc := 297) O 2 dL_law_297 rfl rfl ?_
        refine E_callV_iP (pc := 298) (S := []) O [] CV_RailSequenceLaw_90 rfl (fun r e => t_X4_thrown e) dL_law_298 hf rfl ⟨(Nat.le_of_ble_eq_true rfl), (Nat.le_of_ble_eq_true rfl)⟩ (by first | exact ⟨hcs, hss⟩ | exact ⟨Nat.le_of_succ_le hcs, Nat.le_trans (Nat.le_add_right _ 6) hss⟩) (Nat.le_of_ble_eq_true rfl) (fun v22 hf => ?_)
        refine E_iload (pc := 301) O dL_law_301 rfl ?_
        refine E_icmp_eq (pc := 303) O 308 dL_law_303 (by decide) hf (fun hf => ?_) (fun hf => ?_)
        · refine E_iload (pc := 308) O dL_law_308 rfl ?_
          refine E_if_ne (pc := 310) O 325 dL_law_310 (by decide) hf (fun hf => ?_) (fun hf => ?_)
          · refine E_widen (cs := cs + 1) (ss := ss + 6) (by first | exact Nat.le_refl _ | exact Nat.le_add_right _ _) (by first | exact Nat.le_refl _ | exact Nat.le_add_right _ _) ?_
            exact E_sub (L' := [some (.ref (RO + 0)), some (.ref x1), some (.ref x2), some (.ref x3), some (.int x4), none, none, none, none]) (And.intro rfl (And.intro rfl (And.intro rfl (And.intro rfl (And.intro rfl True.intro))))) (t_b_L_law_325 O Z hsc hout hcs hss _ hr23 p21.2 x1 x2 x3 x4 hf)
          · refine E_aload_n (pc := 313) O 3 dL_law_313 rfl rfl ?_
            refine E_iconst (pc := 314) O (0 : Int32) dL_law_314 (by decide) ?_
            refine E_laload (pc := 315) O dL_law_315 hf (fun v23 hf => ?_)
            refine E_iload (pc := 316) O dL_law_316 rfl ?_
            refine E_i2l (pc := 318) O dL_law_318 ?_
            refine E_lcmp (pc := 319) O dL_law_319 ?_
            refine E_if_eq (pc := 320) O 325 dL_law_320 (by decide) hf (fun hf => ?_) (fun hf => ?_)
            · refine E_widen (cs := cs + 1) (ss := ss + 6) (by first | exact Nat.le_refl _ | exact Nat.le_add_right _ _) (by first | exact Nat.le_refl _ | exact Nat.le_add_right _ _) ?_
              exact E_sub (L' := [some (.ref (RO + 0)), some (.ref x1), some (.ref x2), some (.ref x3), some (.int x4), none, none, none, none]) (And.intro rfl (And.intro rfl (And.intro rfl (And.intro rfl (And.intro rfl True.intro))))) (t_b_L_law_325 O Z hsc hout hcs hss _ hr23 p21.2 x1 x2 x3 x4 hf)
            · refine E_iconst (pc := 323) O (0 : Int32) dL_law_323 (by decide) ?_
              exact absurd (os hf) (by rw [hout]; decide)
        · refine E_iconst (pc := 306) O (0 : Int32) dL_law_306 (by decide) ?_
          exact absurd (os hf) (by rw [hout]; decide)
      · refine E_ite hf (fun c39 hf => ?_) (fun n39_2 hf => ?_)
        · refine E_tswIn (pc := 39) (off := 289) O 2 328 c39 dL_law_39 (by decide) (by decide) (by decide) (by decide) ?_
          refine E_aload_n (pc := 328) O 1 dL_law_328 rfl rfl ?_
          refine E_aload_n (pc := 329) O 0 dL_law_329 rfl rfl ?_
          refine E_iload (pc := 330) O dL_law_330 rfl ?_
          refine E_iconst (pc := 332) O (1 : Int32) dL_law_332 (by decide) ?_
          refine E_iadd (pc := 333) O dL_law_333 ?_
          refine E_ialoadRO (pc := 334) (i := 0) (n := sc.1) (xs := sc.2) O (by decide) hsc dL_law_334 hf (fun v24 hf => ?_)
          refine E_aload_n (pc := 335) O 0 dL_law_335 rfl rfl ?_
          refine E_iload (pc := 336) O dL_law_336 rfl ?_
          refine E_iconst (pc := 338) O (2 : Int32) dL_law_338 (by decide) ?_
          refine E_iadd (pc := 339) O dL_law_339 ?_
          refine E_ialoadRO (pc := 340) (i := 0) (n := sc.1) (xs := sc.2) O (by decide) hsc dL_law_340 hf (fun v25 hf => ?_)
          refine E_aload_n (pc := 341) O 3 dL_law_341 rfl rfl ?_
          refine E_callSW (pc := 342) (S := []) O [.ref x1, .int v24, .int v25, .ref x3] CW_RailSequenceLaw_97 (fun r e => t_L_setNeeds e) dL_law_342 hf rfl ⟨(Nat.le_of_ble_eq_true rfl), (Nat.le_of_ble_eq_true rfl)⟩ ⟨hcs, hss⟩ (Nat.le_of_ble_eq_true rfl) (fun p26 hf => ?_)
          show EE K (false, cs + 1, ss + 6) _ _ _ _
          refine E_istore (pc := 345) O [some (.ref (RO + 0)), some (.ref x1), some (.ref x2), some (.ref x3), some (.int x4), some (.int p26.1), none, none, none] dL_law_345 (by decide) rfl rfl ?_
          refine E_aload_n (pc := 347) O 2 dL_law_347 rfl rfl ?_
          refine E_aload_n (pc := 348) O 0 dL_law_348 rfl rfl ?_
          refine E_iload (pc := 349) O dL_law_349 rfl ?_
          refine E_iconst (pc := 351) O (1 : Int32) dL_law_351 (by decide) ?_
          refine E_iadd (pc := 352) O dL_law_352 ?_
          refine E_ialoadRO (pc := 353) (i := 0) (n := sc.1) (xs := sc.2) O (by decide) hsc dL_law_353 hf (fun v27 hf => ?_)
          refine E_aload_n (pc := 354) O 0 dL_law_354 rfl rfl ?_
          refine E_iload (pc := 355) O dL_law_355 rfl ?_
          refine E_iconst (pc := 357) O (2 : Int32) dL_law_357 (by decide) ?_
          refine E_iadd (pc := 358) O dL_law_358 ?_
          refine E_ialoadRO (pc := 359) (i := 0) (n := sc.1) (xs := sc.2) O (by decide) hsc dL_law_359 hf (fun v28 hf => ?_)
          refine E_callV_i (pc := 360) (S := []) O [.int v27, .int v28] CV_RailSequenceLaw_100 rfl (fun r e => t_X4_setNeeds e) dL_law_360 hf rfl ⟨(Nat.le_of_ble_eq_true rfl), (Nat.le_of_ble_eq_true rfl)⟩ (by first | exact ⟨hcs, hss⟩ | exact ⟨Nat.le_of_succ_le hcs, Nat.le_trans (Nat.le_add_right _ 6) hss⟩) (Nat.le_of_ble_eq_true rfl) (fun p29 hf => ?_)
          refine E_istore (pc := 363) O [some (.ref (RO + 0)), some (.ref x1), some (.ref x2), some (.ref x3), some (.int x4), some (.int p26.1), some (.int p29.1), none, none] dL_law_363 (by decide) rfl rfl ?_
          refine E_aload_n (pc := 365) O 2 dL_law_365 rfl rfl ?_
          refine E_callV_iP (pc := 366) (S := []) O [] CV_RailSequenceLaw_90 rfl (fun r e => t_X4_thrown e) dL_law_366 hf rfl ⟨(Nat.le_of_ble_eq_true rfl), (Nat.le_of_ble_eq_true rfl)⟩ (by first | exact ⟨hcs, hss⟩ | exact ⟨Nat.le_of_succ_le hcs, Nat.le_trans (Nat.le_add_right _ 6) hss⟩) (Nat.le_of_ble_eq_true rfl) (fun v30 hf => ?_)
          refine E_iload (pc := 369) O dL_law_369 rfl ?_
          refine E_icmp_eq (pc := 371) O 376 dL_law_371 (by decide) hf (fun hf => ?_) (fun hf => ?_)
          · refine E_iload (pc := 376) O dL_law_376 rfl ?_
            refine E_if_ne (pc := 378) O 393 dL_law_378 (by decide) hf (fun hf => ?_) (fun hf => ?_)
            · refine E_widen (cs := cs + 1) (ss := ss + 6) (by first | exact Nat.le_refl _ | exact Nat.le_add_right _ _) (by first | exact Nat.le_refl _ | exact Nat.le_add_right _ _) ?_
              exact E_sub (L' := [some (.ref (RO + 0)), some (.ref x1), some (.ref x2), some (.ref x3), some (.int x4), none, none, none, none]) (And.intro rfl (And.intro rfl (And.intro rfl (And.intro rfl (And.intro rfl True.intro))))) (t_b_L_law_393 O Z hsc hout hcs hss _ hr23 p29.2 x1 x2 x3 x4 hf)
            · refine E_aload_n (pc := 381) O 3 dL_law_381 rfl rfl ?_
              refine E_iconst (pc := 382) O (0 : Int32) dL_law_382 (by decide) ?_
              refine E_laload (pc := 383) O dL_law_383 hf (fun v31 hf => ?_)
              refine E_iload (pc := 384) O dL_law_384 rfl ?_
              refine E_i2l (pc := 386) O dL_law_386 ?_
              refine E_lcmp (pc := 387) O dL_law_387 ?_
              refine E_if_eq (pc := 388) O 393 dL_law_388 (by decide) hf (fun hf => ?_) (fun hf => ?_)
              · refine E_widen (cs := cs + 1) (ss := ss + 6) (by first | exact Nat.le_refl _ | exact Nat.le_add_right _ _) (by first | exact Nat.le_refl _ | exact Nat.le_add_right _ _) ?_
                exact E_sub (L' := [some (.ref (RO + 0)), some (.ref x1), some (.ref x2), some (.ref x3), some (.int x4), none, none, none, none]) (And.intro rfl (And.intro rfl (And.intro rfl (And.intro rfl (And.intro rfl True.intro))))) (t_b_L_law_393 O Z hsc hout hcs hss _ hr23 p29.2 x1 x2 x3 x4 hf)
              · refine E_iconst (pc := 391) O (0 : Int32) dL_law_391 (by decide) ?_
                exact absurd (os hf) (by rw [hout]; decide)
          · refine E_iconst (pc := 374) O (0 : Int32) dL_law_374 (by decide) ?_
            exact absurd (os hf) (by rw [hout]; decide)
        · refine E_ite hf (fun c39 hf => ?_) (fun n39_3 hf => ?_)
          · refine E_tswIn (pc := 39) (off := 357) O 3 396 c39 dL_law_39 (by decide) (by decide) (by decide) (by decide) ?_
            refine E_aload_n (pc := 396) O 1 dL_law_396 rfl rfl ?_
            refine E_aload_n (pc := 397) O 0 dL_law_397 rfl rfl ?_
            refine E_iload (pc := 398) O dL_law_398 rfl ?_
            refine E_iconst (pc := 400) O (1 : Int32) dL_law_400 (by decide) ?_
            refine E_iadd (pc := 401) O dL_law_401 ?_
            refine E_ialoadRO (pc := 402) (i := 0) (n := sc.1) (xs := sc.2) O (by decide) hsc dL_law_402 hf (fun v32 hf => ?_)
            refine E_aload_n (pc := 403) O 3 dL_law_403 rfl rfl ?_
            refine E_callSW (pc := 404) (S := []) O [.ref x1, .int v32, .ref x3] CW_RailSequenceLaw_101 (fun r e => t_L_setResidue e) dL_law_404 hf rfl ⟨(Nat.le_of_ble_eq_true rfl), (Nat.le_of_ble_eq_true rfl)⟩ ⟨hcs, hss⟩ (Nat.le_of_ble_eq_true rfl) (fun p33 hf => ?_)
            show EE K (false, cs + 1, ss + 6) _ _ _ _
            refine E_istore (pc := 407) O [some (.ref (RO + 0)), some (.ref x1), some (.ref x2), some (.ref x3), some (.int x4), some (.int p33.1), none, none, none] dL_law_407 (by decide) rfl rfl ?_
            refine E_aload_n (pc := 409) O 2 dL_law_409 rfl rfl ?_
            refine E_aload_n (pc := 410) O 0 dL_law_410 rfl rfl ?_
            refine E_iload (pc := 411) O dL_law_411 rfl ?_
            refine E_iconst (pc := 413) O (1 : Int32) dL_law_413 (by decide) ?_
            refine E_iadd (pc := 414) O dL_law_414 ?_
            refine E_ialoadRO (pc := 415) (i := 0) (n := sc.1) (xs := sc.2) O (by decide) hsc dL_law_415 hf (fun v34 hf => ?_)
            refine E_callV_i (pc := 416) (S := []) O [.int v34] CV_RailSequenceLaw_104 rfl (fun r e => t_X4_setResidue e) dL_law_416 hf rfl ⟨(Nat.le_of_ble_eq_true rfl), (Nat.le_of_ble_eq_true rfl)⟩ (by first | exact ⟨hcs, hss⟩ | exact ⟨Nat.le_of_succ_le hcs, Nat.le_trans (Nat.le_add_right _ 6) hss⟩) (Nat.le_of_ble_eq_true rfl) (fun p35 hf => ?_)
            refine E_istore (pc := 419) O [some (.ref (RO + 0)), some (.ref x1), some (.ref x2), some (.ref x3), some (.int x4), some (.int p33.1), some (.int p35.1), none, none] dL_law_419 (by decide) rfl rfl ?_
            refine E_aload_n (pc := 421) O 2 dL_law_421 rfl rfl ?_
            refine E_callV_iP (pc := 422) (S := []) O [] CV_RailSequenceLaw_90 rfl (fun r e => t_X4_thrown e) dL_law_422 hf rfl ⟨(Nat.le_of_ble_eq_true rfl), (Nat.le_of_ble_eq_true rfl)⟩ (by first | exact ⟨hcs, hss⟩ | exact ⟨Nat.le_of_succ_le hcs, Nat.le_trans (Nat.le_add_right _ 6) hss⟩) (Nat.le_of_ble_eq_true rfl) (fun v36 hf => ?_)
            refine E_iload (pc := 425) O dL_law_425 rfl ?_
            refine E_icmp_eq (pc := 427) O 432 dL_law_427 (by decide) hf (fun hf => ?_) (fun hf => ?_)
            · refine E_iload (pc := 432) O dL_law_432 rfl ?_
              refine E_if_ne (pc := 434) O 449 dL_law_434 (by decide) hf (fun hf => ?_) (fun hf => ?_)
              · refine E_widen (cs := cs + 1) (ss := ss + 6) (by first | exact Nat.le_refl _ | exact Nat.le_add_right _ _) (by first | exact Nat.le_refl _ | exact Nat.le_add_right _ _) ?_
                exact E_sub (L' := [some (.ref (RO + 0)), some (.ref x1), some (.ref x2), some (.ref x3), some (.int x4), none, none, none, none]) (And.intro rfl (And.intro rfl (And.intro rfl (And.intro rfl (And.intro rfl True.intro))))) (t_b_L_law_449 O Z hsc hout hcs hss _ hr23 p35.2 x1 x2 x3 x4 hf)
              · refine E_aload_n (pc := 437) O 3 dL_law_437 rfl rfl ?_
                refine E_iconst (pc := 438) O (0 : Int32) dL_law_438 (by decide) ?_
                refine E_laload (pc := 439) O dL_law_439 hf (fun v37 hf => ?_)
                refine E_iload (pc := 440) O dL_law_440 rfl ?_
                refine E_i2l (pc := 442) O dL_law_442 ?_
                refine E_lcmp (pc := 443) O dL_law_443 ?_
                refine E_if_eq (pc := 444) O 449 dL_law_444 (by decide) hf (fun hf => ?_) (fun hf => ?_)
                · refine E_widen (cs := cs + 1) (ss := ss + 6) (by first | exact Nat.le_refl _ | exact Nat.le_add_right _ _) (by first | exact Nat.le_refl _ | exact Nat.le_add_right _ _) ?_
                  exact E_sub (L' := [some (.ref (RO + 0)), some (.ref x1), some (.ref x2), some (.ref x3), some (.int x4), none, none, none, none]) (And.intro rfl (And.intro rfl (And.intro rfl (And.intro rfl (And.intro rfl True.intro))))) (t_b_L_law_449 O Z hsc hout hcs hss _ hr23 p35.2 x1 x2 x3 x4 hf)
                · refine E_iconst (pc := 447) O (0 : Int32) dL_law_447 (by decide) ?_
                  exact absurd (os hf) (by rw [hout]; decide)
            · refine E_iconst (pc := 430) O (0 : Int32) dL_law_430 (by decide) ?_
              exact absurd (os hf) (by rw [hout]; decide)
          · refine E_ite hf (fun c39 hf => ?_) (fun n39_4 hf => ?_)
            · refine E_tswIn (pc := 39) (off := 413) O 4 452 c39 dL_law_39 (by decide) (by decide) (by decide) (by decide) ?_
              refine E_aload_n (pc := 452) O 1 dL_law_452 rfl rfl ?_
              refine E_aload_n (pc := 453) O 0 dL_law_453 rfl rfl ?_
              refine E_iload (pc := 454) O dL_law_454 rfl ?_
              refine E_iconst (pc := 456) O (1 : Int32) dL_law_456 (by decide) ?_
              refine E_iadd (pc := 457) O dL_law_457 ?_
              refine E_ialoadRO (pc := 458) (i := 0) (n := sc.1) (xs := sc.2) O (by decide) hsc dL_law_458 hf (fun v38 hf => ?_)
              refine E_aload_n (pc := 459) O 3 dL_law_459 rfl rfl ?_
              refine E_callSW (pc := 460) (S := []) O [.ref x1, .int v38, .ref x3] CW_RailSequenceLaw_105 (fun r e => t_L_on e) dL_law_460 hf rfl ⟨(Nat.le_of_ble_eq_true rfl), (Nat.le_of_ble_eq_true rfl)⟩ ⟨hcs, hss⟩ (Nat.le_of_ble_eq_true rfl) (fun p39 hf => ?_)
              show EE K (false, cs + 1, ss + 6) _ _ _ _
              refine E_istore (pc := 463) O [some (.ref (RO + 0)), some (.ref x1), some (.ref x2), some (.ref x3), some (.int x4), some (.int p39.1), none, none, none] dL_law_463 (by decide) rfl rfl ?_
              refine E_aload_n (pc := 465) O 2 dL_law_465 rfl rfl ?_
              refine E_aload_n (pc := 466) O 0 dL_law_466 rfl rfl ?_
              refine E_iload (pc := 467) O dL_law_467 rfl ?_
              refine E_iconst (pc := 469) O (1 : Int32) dL_law_469 (by decide) ?_
              refine E_iadd (pc := 470) O dL_law_470 ?_
              refine E_ialoadRO (pc := 471) (i := 0) (n := sc.1) (xs := sc.2) O (by decide) hsc dL_law_471 hf (fun v40 hf => ?_)
              refine E_callV_i (pc := 472) (S := []) O [.int v40] CV_RailSequenceLaw_107 rfl (fun r e => t_X4_on e) dL_law_472 hf rfl ⟨(Nat.le_of_ble_eq_true rfl), (Nat.le_of_ble_eq_true rfl)⟩ (by first | exact ⟨hcs, hss⟩ | exact ⟨Nat.le_of_succ_le hcs, Nat.le_trans (Nat.le_add_right _ 6) hss⟩) (Nat.le_of_ble_eq_true rfl) (fun p41 hf => ?_)
              refine E_istore (pc := 475) O [some (.ref (RO + 0)), some (.ref x1), some (.ref x2), some (.ref x3), some (.int x4), some (.int p39.1), some (.int p41.1), none, none] dL_law_475 (by decide) rfl rfl ?_
              refine E_aload_n (pc := 477) O 2 dL_law_477 rfl rfl ?_
              refine E_callV_iP (pc := 478) (S := []) O [] CV_RailSequenceLaw_90 rfl (fun r e => t_X4_thrown e) dL_law_478 hf rfl ⟨(Nat.le_of_ble_eq_true rfl), (Nat.le_of_ble_eq_true rfl)⟩ (by first | exact ⟨hcs, hss⟩ | exact ⟨Nat.le_of_succ_le hcs, Nat.le_trans (Nat.le_add_right _ 6) hss⟩) (Nat.le_of_ble_eq_true rfl) (fun v42 hf => ?_)
              refine E_iload (pc := 481) O dL_law_481 rfl ?_
              refine E_icmp_eq (pc := 483) O 488 dL_law_483 (by decide) hf (fun hf => ?_) (fun hf => ?_)
              · refine E_iload (pc := 488) O dL_law_488 rfl ?_
                refine E_if_ne (pc := 490) O 505 dL_law_490 (by decide) hf (fun hf => ?_) (fun hf => ?_)
                · refine E_widen (cs := cs + 1) (ss := ss + 6) (by first | exact Nat.le_refl _ | exact Nat.le_add_right _ _) (by first | exact Nat.le_refl _ | exact Nat.le_add_right _ _) ?_
                  exact E_sub (L' := [some (.ref (RO + 0)), some (.ref x1), some (.ref x2), some (.ref x3), some (.int x4), none, none, none, none]) (And.intro rfl (And.intro rfl (And.intro rfl (And.intro rfl (And.intro rfl True.intro))))) (t_b_L_law_505 O Z hsc hout hcs hss _ hr23 p41.2 x1 x2 x3 x4 hf)
                · refine E_aload_n (pc := 493) O 3 dL_law_493 rfl rfl ?_
                  refine E_iconst (pc := 494) O (0 : Int32) dL_law_494 (by decide) ?_
                  refine E_laload (pc := 495) O dL_law_495 hf (fun v43 hf => ?_)
                  refine E_iload (pc := 496) O dL_law_496 rfl ?_
                  refine E_i2l (pc := 498) O dL_law_498 ?_
                  refine E_lcmp (pc := 499) O dL_law_499 ?_
                  refine E_if_eq (pc := 500) O 505 dL_law_500 (by decide) hf (fun hf => ?_) (fun hf => ?_)
                  · refine E_widen (cs := cs + 1) (ss := ss + 6) (by first | exact Nat.le_refl _ | exact Nat.le_add_right _ _) (by first | exact Nat.le_refl _ | exact Nat.le_add_right _ _) ?_
                    exact E_sub (L' := [some (.ref (RO + 0)), some (.ref x1), some (.ref x2), some (.ref x3), some (.int x4), none, none, none, none]) (And.intro rfl (And.intro rfl (And.intro rfl (And.intro rfl (And.intro rfl True.intro))))) (t_b_L_law_505 O Z hsc hout hcs hss _ hr23 p41.2 x1 x2 x3 x4 hf)
                  · refine E_iconst (pc := 503) O (0 : Int32) dL_law_503 (by decide) ?_
                    exact absurd (os hf) (by rw [hout]; decide)
              · refine E_iconst (pc := 486) O (0 : Int32) dL_law_486 (by decide) ?_
                exact absurd (os hf) (by rw [hout]; decide)
            · refine E_ite hf (fun c39 hf => ?_) (fun n39_5 hf => ?_)
              · refine E_tswIn (pc := 39) (off := 469) O 5 508 c39 dL_law_39 (by decide) (by decide) (by decide) (by decide) ?_
                refine E_aload_n (pc := 508) O 1 dL_law_508 rfl rfl ?_
                refine E_aload_n (pc := 509) O 0 dL_law_509 rfl rfl ?_
                refine E_iload (pc := 510) O dL_law_510 rfl ?_
                refine E_iconst (pc := 512) O (1 : Int32) dL_law_512 (by decide) ?_
                refine E_iadd (pc := 513) O dL_law_513 ?_
                refine E_ialoadRO (pc := 514) (i := 0) (n := sc.1) (xs := sc.2) O (by decide) hsc dL_law_514 hf (fun v44 hf => ?_)
                refine E_aload_n (pc := 515) O 3 dL_law_515 rfl rfl ?_
                refine E_callSW (pc := 516) (S := []) O [.ref x1, .int v44, .ref x3] CW_RailSequenceLaw_108 (fun r e => t_L_off e) dL_law_516 hf rfl ⟨(Nat.le_of_ble_eq_true rfl), (Nat.le_of_ble_eq_true rfl)⟩ ⟨hcs, hss⟩ (Nat.le_of_ble_eq_true rfl) (fun p45 hf => ?_)
                show EE K (false, cs + 1, ss + 6) _ _ _ _
                refine E_istore (pc := 519) O [some (.ref (RO + 0)), some (.ref x1), some (.ref x2), some (.ref x3), some (.int x4), some (.int p45.1), none, none, none] dL_law_519 (by decide) rfl rfl ?_
                refine E_aload_n (pc := 521) O 2 dL_law_521 rfl rfl ?_
                refine E_aload_n (pc := 522) O 0 dL_law_522 rfl rfl ?_
                refine E_iload (pc := 523) O dL_law_523 rfl ?_
                refine E_iconst (pc := 525) O (1 : Int32) dL_law_525 (by decide) ?_
                refine E_iadd (pc := 526) O dL_law_526 ?_
                refine E_ialoadRO (pc := 527) (i := 0) (n := sc.1) (xs := sc.2) O (by decide) hsc dL_law_527 hf (fun v46 hf => ?_)
                refine E_callV_i (pc := 528) (S := []) O [.int v46] CV_RailSequenceLaw_110 rfl (fun r e => t_X4_off e) dL_law_528 hf rfl ⟨(Nat.le_of_ble_eq_true rfl), (Nat.le_of_ble_eq_true rfl)⟩ (by first | exact ⟨hcs, hss⟩ | exact ⟨Nat.le_of_succ_le hcs, Nat.le_trans (Nat.le_add_right _ 6) hss⟩) (Nat.le_of_ble_eq_true rfl) (fun p47 hf => ?_)
                refine E_istore (pc := 531) O [some (.ref (RO + 0)), some (.ref x1), some (.ref x2), some (.ref x3), some (.int x4), some (.int p45.1), some (.int p47.1), none, none] dL_law_531 (by decide) rfl rfl ?_
                refine E_aload_n (pc := 533) O 2 dL_law_533 rfl rfl ?_
                refine E_callV_iP (pc := 534) (S := []) O [] CV_RailSequenceLaw_90 rfl (fun r e => t_X4_thrown e) dL_law_534 hf rfl ⟨(Nat.le_of_ble_eq_true rfl), (Nat.le_of_ble_eq_true rfl)⟩ (by first | exact ⟨hcs, hss⟩ | exact ⟨Nat.le_of_succ_le hcs, Nat.le_trans (Nat.le_add_right _ 6) hss⟩) (Nat.le_of_ble_eq_true rfl) (fun v48 hf => ?_)
                refine E_iload (pc := 537) O dL_law_537 rfl ?_
                refine E_icmp_eq (pc := 539) O 544 dL_law_539 (by decide) hf (fun hf => ?_) (fun hf => ?_)
                · refine E_iload (pc := 544) O dL_law_544 rfl ?_
                  refine E_if_ne (pc := 546) O 561 dL_law_546 (by decide) hf (fun hf => ?_) (fun hf => ?_)
                  · refine E_widen (cs := cs + 1) (ss := ss + 6) (by first | exact Nat.le_refl _ | exact Nat.le_add_right _ _) (by first | exact Nat.le_refl _ | exact Nat.le_add_right _ _) ?_
                    exact E_sub (L' := [some (.ref (RO + 0)), some (.ref x1), some (.ref x2), some (.ref x3), some (.int x4), none, none, none, none]) (And.intro rfl (And.intro rfl (And.intro rfl (And.intro rfl (And.intro rfl True.intro))))) (t_b_L_law_561 O Z hsc hout hcs hss _ hr23 p47.2 x1 x2 x3 x4 hf)
                  · refine E_aload_n (pc := 549) O 3 dL_law_549 rfl rfl ?_
                    refine E_iconst (pc := 550) O (0 : Int32) dL_law_550 (by decide) ?_
                    refine E_laload (pc := 551) O dL_law_551 hf (fun v49 hf => ?_)
                    refine E_iload (pc := 552) O dL_law_552 rfl ?_
                    refine E_i2l (pc := 554) O dL_law_554 ?_
                    refine E_lcmp (pc := 555) O dL_law_555 ?_
                    refine E_if_eq (pc := 556) O 561 dL_law_556 (by decide) hf (fun hf => ?_) (fun hf => ?_)
                    · refine E_widen (cs := cs + 1) (ss := ss + 6) (by first | exact Nat.le_refl _ | exact Nat.le_add_right _ _) (by first | exact Nat.le_refl _ | exact Nat.le_add_right _ _) ?_
                      exact E_sub (L' := [some (.ref (RO + 0)), some (.ref x1), some (.ref x2), some (.ref x3), some (.int x4), none, none, none, none]) (And.intro rfl (And.intro rfl (And.intro rfl (And.intro rfl (And.intro rfl True.intro))))) (t_b_L_law_561 O Z hsc hout hcs hss _ hr23 p47.2 x1 x2 x3 x4 hf)
                    · refine E_iconst (pc := 559) O (0 : Int32) dL_law_559 (by decide) ?_
                      exact absurd (os hf) (by rw [hout]; decide)
                · refine E_iconst (pc := 542) O (0 : Int32) dL_law_542 (by decide) ?_
                  exact absurd (os hf) (by rw [hout]; decide)
              · refine E_ite hf (fun c39 hf => ?_) (fun n39_6 hf => ?_)
                · refine E_tswIn (pc := 39) (off := 525) O 6 564 c39 dL_law_39 (by decide) (by decide) (by decide) (by decide) ?_
                  refine E_aload_n (pc := 564) O 1 dL_law_564 rfl rfl ?_
                  refine E_aload_n (pc := 565) O 0 dL_law_565 rfl rfl ?_
                  refine E_iload (pc := 566) O dL_law_566 rfl ?_
                  refine E_iconst (pc := 568) O (1 : Int32) dL_law_568 (by decide) ?_
                  refine E_iadd (pc := 569) O dL_law_569 ?_
                  refine E_ialoadRO (pc := 570) (i := 0) (n := sc.1) (xs := sc.2) O (by decide) hsc dL_law_570 hf (fun v50 hf => ?_)
                  refine E_aload_n (pc := 571) O 3 dL_law_571 rfl rfl ?_
                  refine E_callSW (pc := 572) (S := []) O [.ref x1, .int v50, .ref x3] CW_RailSequenceLaw_111 (fun r e => t_L_restart e) dL_law_572 hf rfl ⟨(Nat.le_of_ble_eq_true rfl), (Nat.le_of_ble_eq_true rfl)⟩ ⟨hcs, hss⟩ (Nat.le_of_ble_eq_true rfl) (fun p51 hf => ?_)
                  show EE K (false, cs + 1, ss + 6) _ _ _ _
                  refine E_istore (pc := 575) O [some (.ref (RO + 0)), some (.ref x1), some (.ref x2), some (.ref x3), some (.int x4), some (.int p51.1), none, none, none] dL_law_575 (by decide) rfl rfl ?_
                  refine E_aload_n (pc := 577) O 2 dL_law_577 rfl rfl ?_
                  refine E_aload_n (pc := 578) O 0 dL_law_578 rfl rfl ?_
                  refine E_iload (pc := 579) O dL_law_579 rfl ?_
                  refine E_iconst (pc := 581) O (1 : Int32) dL_law_581 (by decide) ?_
                  refine E_iadd (pc := 582) O dL_law_582 ?_
                  refine E_ialoadRO (pc := 583) (i := 0) (n := sc.1) (xs := sc.2) O (by decide) hsc dL_law_583 hf (fun v52 hf => ?_)
                  refine E_callV_i (pc := 584) (S := []) O [.int v52] CV_RailSequenceLaw_113 rfl (fun r e => t_X4_restart e) dL_law_584 hf rfl ⟨(Nat.le_of_ble_eq_true rfl), (Nat.le_of_ble_eq_true rfl)⟩ (by first | exact ⟨hcs, hss⟩ | exact ⟨Nat.le_of_succ_le hcs, Nat.le_trans (Nat.le_add_right _ 6) hss⟩) (Nat.le_of_ble_eq_true rfl) (fun p53 hf => ?_)
                  refine E_istore (pc := 587) O [some (.ref (RO + 0)), some (.ref x1), some (.ref x2), some (.ref x3), some (.int x4), some (.int p51.1), some (.int p53.1), none, none] dL_law_587 (by decide) rfl rfl ?_
                  refine E_aload_n (pc := 589) O 2 dL_law_589 rfl rfl ?_
                  refine E_callV_iP (pc := 590) (S := []) O [] CV_RailSequenceLaw_90 rfl (fun r e => t_X4_thrown e) dL_law_590 hf rfl ⟨(Nat.le_of_ble_eq_true rfl), (Nat.le_of_ble_eq_true rfl)⟩ (by first | exact ⟨hcs, hss⟩ | exact ⟨Nat.le_of_succ_le hcs, Nat.le_trans (Nat.le_add_right _ 6) hss⟩) (Nat.le_of_ble_eq_true rfl) (fun v54 hf => ?_)
                  refine E_iload (pc := 593) O dL_law_593 rfl ?_
                  refine E_icmp_eq (pc := 595) O 600 dL_law_595 (by decide) hf (fun hf => ?_) (fun hf => ?_)
                  · refine E_iload (pc := 600) O dL_law_600 rfl ?_
                    refine E_if_ne (pc := 602) O 617 dL_law_602 (by decide) hf (fun hf => ?_) (fun hf => ?_)
                    · refine E_widen (cs := cs + 1) (ss := ss + 6) (by first | exact Nat.le_refl _ | exact Nat.le_add_right _ _) (by first | exact Nat.le_refl _ | exact Nat.le_add_right _ _) ?_
                      exact E_sub (L' := [some (.ref (RO + 0)), some (.ref x1), some (.ref x2), some (.ref x3), some (.int x4), none, none, none, none]) (And.intro rfl (And.intro rfl (And.intro rfl (And.intro rfl (And.intro rfl True.intro))))) (t_b_L_law_617 O Z hsc hout hcs hss _ hr23 p53.2 x1 x2 x3 x4 hf)
                    · refine E_aload_n (pc := 605) O 3 dL_law_605 rfl rfl ?_
                      refine E_iconst (pc := 606) O (0 : Int32) dL_law_606 (by decide) ?_
                      refine E_laload (pc := 607) O dL_law_607 hf (fun v55 hf => ?_)
                      refine E_iload (pc := 608) O dL_law_608 rfl ?_
                      refine E_i2l (pc := 610) O dL_law_610 ?_
                      refine E_lcmp (pc := 611) O dL_law_611 ?_
                      refine E_if_eq (pc := 612) O 617 dL_law_612 (by decide) hf (fun hf => ?_) (fun hf => ?_)
                      · refine E_widen (cs := cs + 1) (ss := ss + 6) (by first | exact Nat.le_refl _ | exact Nat.le_add_right _ _) (by first | exact Nat.le_refl _ | exact Nat.le_add_right _ _) ?_
                        exact E_sub (L' := [some (.ref (RO + 0)), some (.ref x1), some (.ref x2), some (.ref x3), some (.int x4), none, none, none, none]) (And.intro rfl (And.intro rfl (And.intro rfl (And.intro rfl (And.intro rfl True.intro))))) (t_b_L_law_617 O Z hsc hout hcs hss _ hr23 p53.2 x1 x2 x3 x4 hf)
                      · refine E_iconst (pc := 615) O (0 : Int32) dL_law_615 (by decide) ?_
                        exact absurd (os hf) (by rw [hout]; decide)
                  · refine E_iconst (pc := 598) O (0 : Int32) dL_law_598 (by decide) ?_
                    exact absurd (os hf) (by rw [hout]; decide)
                · refine E_ite hf (fun c39 hf => ?_) (fun n39_7 hf => ?_)
                  · refine E_tswIn (pc := 39) (off := 581) O 7 620 c39 dL_law_39 (by decide) (by decide) (by decide) (by decide) ?_
                    refine E_aload_n (pc := 620) O 1 dL_law_620 rfl rfl ?_
                    refine E_aload_n (pc := 621) O 0 dL_law_621 rfl rfl ?_
                    refine E_iload (pc := 622) O dL_law_622 rfl ?_
                    refine E_iconst (pc := 624) O (1 : Int32) dL_law_624 (by decide) ?_
                    refine E_iadd (pc := 625) O dL_law_625 ?_
                    refine E_ialoadRO (pc := 626) (i := 0) (n := sc.1) (xs := sc.2) O (by decide) hsc dL_law_626 hf (fun v56 hf => ?_)
                    refine E_aload_n (pc := 627) O 0 dL_law_627 rfl rfl ?_
                    refine E_iload (pc := 628) O dL_law_628 rfl ?_
                    refine E_iconst (pc := 630) O (2 : Int32) dL_law_630 (by decide) ?_
                    refine E_iadd (pc := 631) O dL_law_631 ?_
                    refine E_ialoadRO (pc := 632) (i := 0) (n := sc.1) (xs := sc.2) O (by decide) hsc dL_law_632 hf (fun v57 hf => ?_)
                    refine E_aload_n (pc := 633) O 3 dL_law_633 rfl rfl ?_
                    refine E_callSW (pc := 634) (S := []) O [.ref x1, .int v56, .int v57, .ref x3] CW_RailSequenceLaw_114 (fun r e => t_L_shortCircuit e) dL_law_634 hf rfl ⟨(Nat.le_of_ble_eq_true rfl), (Nat.le_of_ble_eq_true rfl)⟩ ⟨hcs, hss⟩ (Nat.le_of_ble_eq_true rfl) (fun p58 hf => ?_)
                    show EE K (false, cs + 1, ss + 6) _ _ _ _
                    refine E_istore (pc := 637) O [some (.ref (RO + 0)), some (.ref x1), some (.ref x2), some (.ref x3), some (.int x4), some (.int p58.1), none, none, none] dL_law_637 (by decide) rfl rfl ?_
                    refine E_aload_n (pc := 639) O 2 dL_law_639 rfl rfl ?_
                    refine E_aload_n (pc := 640) O 0 dL_law_640 rfl rfl ?_
                    refine E_iload (pc := 641) O dL_law_641 rfl ?_
                    refine E_iconst (pc := 643) O (1 : Int32) dL_law_643 (by decide) ?_
                    refine E_iadd (pc := 644) O dL_law_644 ?_
                    refine E_ialoadRO (pc := 645) (i := 0) (n := sc.1) (xs := sc.2) O (by decide) hsc dL_law_645 hf (fun v59 hf => ?_)
                    refine E_aload_n (pc := 646) O 0 dL_law_646 rfl rfl ?_
                    refine E_iload (pc := 647) O dL_law_647 rfl ?_
                    refine E_iconst (pc := 649) O (2 : Int32) dL_law_649 (by decide) ?_
                    refine E_iadd (pc := 650) O dL_law_650 ?_
                    refine E_ialoadRO (pc := 651) (i := 0) (n := sc.1) (xs := sc.2) O (by decide) hsc dL_law_651 hf (fun v60 hf => ?_)
                    refine E_callV_i (pc := 652) (S := []) O [.int v59, .int v60] CV_RailSequenceLaw_116 rfl (fun r e => t_X4_shortCircuit e) dL_law_652 hf rfl ⟨(Nat.le_of_ble_eq_true rfl), (Nat.le_of_ble_eq_true rfl)⟩ (by first | exact ⟨hcs, hss⟩ | exact ⟨Nat.le_of_succ_le hcs, Nat.le_trans (Nat.le_add_right _ 6) hss⟩) (Nat.le_of_ble_eq_true rfl) (fun p61 hf => ?_)
                    refine E_istore (pc := 655) O [some (.ref (RO + 0)), some (.ref x1), some (.ref x2), some (.ref x3), some (.int x4), some (.int p58.1), some (.int p61.1), none, none] dL_law_655 (by decide) rfl rfl ?_
                    refine E_aload_n (pc := 657) O 2 dL_law_657 rfl rfl ?_
                    refine E_callV_iP (pc := 658) (S := []) O [] CV_RailSequenceLaw_90 rfl (fun r e => t_X4_thrown e) dL_law_658 hf rfl ⟨(Nat.le_of_ble_eq_true rfl), (Nat.le_of_ble_eq_true rfl)⟩ (by first | exact ⟨hcs, hss⟩ | exact ⟨Nat.le_of_succ_le hcs, Nat.le_trans (Nat.le_add_right _ 6) hss⟩) (Nat.le_of_ble_eq_true rfl) (fun v62 hf => ?_)
                    refine E_iload (pc := 661) O dL_law_661 rfl ?_
                    refine E_icmp_eq (pc := 663) O 668 dL_law_663 (by decide) hf (fun hf => ?_) (fun hf => ?_)
                    · refine E_iload (pc := 668) O dL_law_668 rfl ?_
                      refine E_if_ne (pc := 670) O 685 dL_law_670 (by decide) hf (fun hf => ?_) (fun hf => ?_)
                      · refine E_widen (cs := cs + 1) (ss := ss + 6) (by first | exact Nat.le_refl _ | exact Nat.le_add_right _ _) (by first | exact Nat.le_refl _ | exact Nat.le_add_right _ _) ?_
                        exact E_sub (L' := [some (.ref (RO + 0)), some (.ref x1), some (.ref x2), some (.ref x3), some (.int x4), none, none, none, none]) (And.intro rfl (And.intro rfl (And.intro rfl (And.intro rfl (And.intro rfl True.intro))))) (t_b_L_law_685 O Z hsc hout hcs hss _ hr23 p61.2 x1 x2 x3 x4 hf)
                      · refine E_aload_n (pc := 673) O 3 dL_law_673 rfl rfl ?_
                        refine E_iconst (pc := 674) O (0 : Int32) dL_law_674 (by decide) ?_
                        refine E_laload (pc := 675) O dL_law_675 hf (fun v63 hf => ?_)
                        refine E_iload (pc := 676) O dL_law_676 rfl ?_
                        refine E_i2l (pc := 678) O dL_law_678 ?_
                        refine E_lcmp (pc := 679) O dL_law_679 ?_
                        refine E_if_eq (pc := 680) O 685 dL_law_680 (by decide) hf (fun hf => ?_) (fun hf => ?_)
                        · refine E_widen (cs := cs + 1) (ss := ss + 6) (by first | exact Nat.le_refl _ | exact Nat.le_add_right _ _) (by first | exact Nat.le_refl _ | exact Nat.le_add_right _ _) ?_
                          exact E_sub (L' := [some (.ref (RO + 0)), some (.ref x1), some (.ref x2), some (.ref x3), some (.int x4), none, none, none, none]) (And.intro rfl (And.intro rfl (And.intro rfl (And.intro rfl (And.intro rfl True.intro))))) (t_b_L_law_685 O Z hsc hout hcs hss _ hr23 p61.2 x1 x2 x3 x4 hf)
                        · refine E_iconst (pc := 683) O (0 : Int32) dL_law_683 (by decide) ?_
                          exact absurd (os hf) (by rw [hout]; decide)
                    · refine E_iconst (pc := 666) O (0 : Int32) dL_law_666 (by decide) ?_
                      exact absurd (os hf) (by rw [hout]; decide)
                  · refine E_ite hf (fun c39 hf => ?_) (fun n39_8 hf => ?_)
                    · refine E_tswIn (pc := 39) (off := 649) O 8 688 c39 dL_law_39 (by decide) (by decide) (by decide) (by decide) ?_
                      refine E_aload_n (pc := 688) O 1 dL_law_688 rfl rfl ?_
                      refine E_aload_n (pc := 689) O 0 dL_law_689 rfl rfl ?_
                      refine E_iload (pc := 690) O dL_law_690 rfl ?_
                      refine E_iconst (pc := 692) O (1 : Int32) dL_law_692 (by decide) ?_
                      refine E_iadd (pc := 693) O dL_law_693 ?_
                      refine E_ialoadRO (pc := 694) (i := 0) (n := sc.1) (xs := sc.2) O (by decide) hsc dL_law_694 hf (fun v64 hf => ?_)
                      refine E_aload_n (pc := 695) O 0 dL_law_695 rfl rfl ?_
                      refine E_iload (pc := 696) O dL_law_696 rfl ?_
                      refine E_iconst (pc := 698) O (2 : Int32) dL_law_698 (by decide) ?_
                      refine E_iadd (pc := 699) O dL_law_699 ?_
                      refine E_ialoadRO (pc := 700) (i := 0) (n := sc.1) (xs := sc.2) O (by decide) hsc dL_law_700 hf (fun v65 hf => ?_)
                      refine E_aload_n (pc := 701) O 3 dL_law_701 rfl rfl ?_
                      refine E_callSW (pc := 702) (S := []) O [.ref x1, .int v64, .int v65, .ref x3] CW_RailSequenceLaw_117 (fun r e => t_L_stick e) dL_law_702 hf rfl ⟨(Nat.le_of_ble_eq_true rfl), (Nat.le_of_ble_eq_true rfl)⟩ ⟨hcs, hss⟩ (Nat.le_of_ble_eq_true rfl) (fun p66 hf => ?_)
                      show EE K (false, cs + 1, ss + 6) _ _ _ _
                      refine E_istore (pc := 705) O [some (.ref (RO + 0)), some (.ref x1), some (.ref x2), some (.ref x3), some (.int x4), some (.int p66.1), none, none, none] dL_law_705 (by decide) rfl rfl ?_
                      refine E_aload_n (pc := 707) O 2 dL_law_707 rfl rfl ?_
                      refine E_aload_n (pc := 708) O 0 dL_law_708 rfl rfl ?_
                      refine E_iload (pc := 709) O dL_law_709 rfl ?_
                      refine E_iconst (pc := 711) O (1 : Int32) dL_law_711 (by decide) ?_
                      refine E_iadd (pc := 712) O dL_law_712 ?_
                      refine E_ialoadRO (pc := 713) (i := 0) (n := sc.1) (xs := sc.2) O (by decide) hsc dL_law_713 hf (fun v67 hf => ?_)
                      refine E_aload_n (pc := 714) O 0 dL_law_714 rfl rfl ?_
                      refine E_iload (pc := 715) O dL_law_715 rfl ?_
                      refine E_iconst (pc := 717) O (2 : Int32) dL_law_717 (by decide) ?_
                      refine E_iadd (pc := 718) O dL_law_718 ?_
                      refine E_ialoadRO (pc := 719) (i := 0) (n := sc.1) (xs := sc.2) O (by decide) hsc dL_law_719 hf (fun v68 hf => ?_)
                      refine E_callV_i (pc := 720) (S := []) O [.int v67, .int v68] CV_RailSequenceLaw_119 rfl (fun r e => t_X4_stick e) dL_law_720 hf rfl ⟨(Nat.le_of_ble_eq_true rfl), (Nat.le_of_ble_eq_true rfl)⟩ (by first | exact ⟨hcs, hss⟩ | exact ⟨Nat.le_of_succ_le hcs, Nat.le_trans (Nat.le_add_right _ 6) hss⟩) (Nat.le_of_ble_eq_true rfl) (fun p69 hf => ?_)
                      refine E_istore (pc := 723) O [some (.ref (RO + 0)), some (.ref x1), some (.ref x2), some (.ref x3), some (.int x4), some (.int p66.1), some (.int p69.1), none, none] dL_law_723 (by decide) rfl rfl ?_
                      refine E_aload_n (pc := 725) O 2 dL_law_725 rfl rfl ?_
                      refine E_callV_iP (pc := 726) (S := []) O [] CV_RailSequenceLaw_90 rfl (fun r e => t_X4_thrown e) dL_law_726 hf rfl ⟨(Nat.le_of_ble_eq_true rfl), (Nat.le_of_ble_eq_true rfl)⟩ (by first | exact ⟨hcs, hss⟩ | exact ⟨Nat.le_of_succ_le hcs, Nat.le_trans (Nat.le_add_right _ 6) hss⟩) (Nat.le_of_ble_eq_true rfl) (fun v70 hf => ?_)
                      refine E_iload (pc := 729) O dL_law_729 rfl ?_
                      refine E_icmp_eq (pc := 731) O 736 dL_law_731 (by decide) hf (fun hf => ?_) (fun hf => ?_)
                      · refine E_iload (pc := 736) O dL_law_736 rfl ?_
                        refine E_if_ne (pc := 738) O 753 dL_law_738 (by decide) hf (fun hf => ?_) (fun hf => ?_)
                        · refine E_widen (cs := cs + 1) (ss := ss + 6) (by first | exact Nat.le_refl _ | exact Nat.le_add_right _ _) (by first | exact Nat.le_refl _ | exact Nat.le_add_right _ _) ?_
                          exact E_sub (L' := [some (.ref (RO + 0)), some (.ref x1), some (.ref x2), some (.ref x3), some (.int x4), none, none, none, none]) (And.intro rfl (And.intro rfl (And.intro rfl (And.intro rfl (And.intro rfl True.intro))))) (t_b_L_law_753 O Z hsc hout hcs hss _ hr23 p69.2 x1 x2 x3 x4 hf)
                        · refine E_aload_n (pc := 741) O 3 dL_law_741 rfl rfl ?_
                          refine E_iconst (pc := 742) O (0 : Int32) dL_law_742 (by decide) ?_
                          refine E_laload (pc := 743) O dL_law_743 hf (fun v71 hf => ?_)
                          refine E_iload (pc := 744) O dL_law_744 rfl ?_
                          refine E_i2l (pc := 746) O dL_law_746 ?_
                          refine E_lcmp (pc := 747) O dL_law_747 ?_
                          refine E_if_eq (pc := 748) O 753 dL_law_748 (by decide) hf (fun hf => ?_) (fun hf => ?_)
                          · refine E_widen (cs := cs + 1) (ss := ss + 6) (by first | exact Nat.le_refl _ | exact Nat.le_add_right _ _) (by first | exact Nat.le_refl _ | exact Nat.le_add_right _ _) ?_
                            exact E_sub (L' := [some (.ref (RO + 0)), some (.ref x1), some (.ref x2), some (.ref x3), some (.int x4), none, none, none, none]) (And.intro rfl (And.intro rfl (And.intro rfl (And.intro rfl (And.intro rfl True.intro))))) (t_b_L_law_753 O Z hsc hout hcs hss _ hr23 p69.2 x1 x2 x3 x4 hf)
                          · refine E_iconst (pc := 751) O (0 : Int32) dL_law_751 (by decide) ?_
                            exact absurd (os hf) (by rw [hout]; decide)
                      · refine E_iconst (pc := 734) O (0 : Int32) dL_law_734 (by decide) ?_
                        exact absurd (os hf) (by rw [hout]; decide)
                    · refine E_ite hf (fun c39 hf => ?_) (fun n39_9 hf => ?_)
                      · refine E_tswIn (pc := 39) (off := 717) O 9 756 c39 dL_law_39 (by decide) (by decide) (by decide) (by decide) ?_
                        refine E_aload_n (pc := 756) O 1 dL_law_756 rfl rfl ?_
                        refine E_aload_n (pc := 757) O 0 dL_law_757 rfl rfl ?_
                        refine E_iload (pc := 758) O dL_law_758 rfl ?_
                        refine E_iconst (pc := 760) O (1 : Int32) dL_law_760 (by decide) ?_
                        refine E_iadd (pc := 761) O dL_law_761 ?_
                        refine E_ialoadRO (pc := 762) (i := 0) (n := sc.1) (xs := sc.2) O (by decide) hsc dL_law_762 hf (fun v72 hf => ?_)
                        refine E_aload_n (pc := 763) O 3 dL_law_763 rfl rfl ?_
                        refine E_callSW (pc := 764) (S := []) O [.ref x1, .int v72, .ref x3] CW_RailSequenceLaw_120 (fun r e => t_L_tick e) dL_law_764 hf rfl ⟨(Nat.le_of_ble_eq_true rfl), (Nat.le_of_ble_eq_true rfl)⟩ ⟨hcs, hss⟩ (Nat.le_of_ble_eq_true rfl) (fun p73 hf => ?_)
                        show EE K (false, cs + 1, ss + 6) _ _ _ _
                        refine E_istore (pc := 767) O [some (.ref (RO + 0)), some (.ref x1), some (.ref x2), some (.ref x3), some (.int x4), some (.int p73.1), none, none, none] dL_law_767 (by decide) rfl rfl ?_
                        refine E_aload_n (pc := 769) O 2 dL_law_769 rfl rfl ?_
                        refine E_aload_n (pc := 770) O 0 dL_law_770 rfl rfl ?_
                        refine E_iload (pc := 771) O dL_law_771 rfl ?_
                        refine E_iconst (pc := 773) O (1 : Int32) dL_law_773 (by decide) ?_
                        refine E_iadd (pc := 774) O dL_law_774 ?_
                        refine E_ialoadRO (pc := 775) (i := 0) (n := sc.1) (xs := sc.2) O (by decide) hsc dL_law_775 hf (fun v74 hf => ?_)
                        refine E_callV_i (pc := 776) (S := []) O [.int v74] CV_RailSequenceLaw_122 rfl (fun r e => t_X4_tick e) dL_law_776 hf rfl ⟨(Nat.le_of_ble_eq_true rfl), (Nat.le_of_ble_eq_true rfl)⟩ (by first | exact ⟨hcs, hss⟩ | exact ⟨Nat.le_of_succ_le hcs, Nat.le_trans (Nat.le_add_right _ 6) hss⟩) (Nat.le_of_ble_eq_true rfl) (fun p75 hf => ?_)
                        refine E_istore (pc := 779) O [some (.ref (RO + 0)), some (.ref x1), some (.ref x2), some (.ref x3), some (.int x4), some (.int p73.1), some (.int p75.1), none, none] dL_law_779 (by decide) rfl rfl ?_
                        refine E_aload_n (pc := 781) O 2 dL_law_781 rfl rfl ?_
                        refine E_callV_iP (pc := 782) (S := []) O [] CV_RailSequenceLaw_90 rfl (fun r e => t_X4_thrown e) dL_law_782 hf rfl ⟨(Nat.le_of_ble_eq_true rfl), (Nat.le_of_ble_eq_true rfl)⟩ (by first | exact ⟨hcs, hss⟩ | exact ⟨Nat.le_of_succ_le hcs, Nat.le_trans (Nat.le_add_right _ 6) hss⟩) (Nat.le_of_ble_eq_true rfl) (fun v76 hf => ?_)
                        refine E_iload (pc := 785) O dL_law_785 rfl ?_
                        refine E_icmp_eq (pc := 787) O 792 dL_law_787 (by decide) hf (fun hf => ?_) (fun hf => ?_)
                        · refine E_iload (pc := 792) O dL_law_792 rfl ?_
                          refine E_if_ne (pc := 794) O 809 dL_law_794 (by decide) hf (fun hf => ?_) (fun hf => ?_)
                          · refine E_widen (cs := cs + 1) (ss := ss + 6) (by first | exact Nat.le_refl _ | exact Nat.le_add_right _ _) (by first | exact Nat.le_refl _ | exact Nat.le_add_right _ _) ?_
                            exact E_sub (L' := [some (.ref (RO + 0)), some (.ref x1), some (.ref x2), some (.ref x3), some (.int x4), none, none, none, none]) (And.intro rfl (And.intro rfl (And.intro rfl (And.intro rfl (And.intro rfl True.intro))))) (t_b_L_law_809 O Z hsc hout hcs hss _ hr23 p75.2 x1 x2 x3 x4 hf)
                          · refine E_aload_n (pc := 797) O 3 dL_law_797 rfl rfl ?_
                            refine E_iconst (pc := 798) O (0 : Int32) dL_law_798 (by decide) ?_
                            refine E_laload (pc := 799) O dL_law_799 hf (fun v77 hf => ?_)
                            refine E_iload (pc := 800) O dL_law_800 rfl ?_
                            refine E_i2l (pc := 802) O dL_law_802 ?_
                            refine E_lcmp (pc := 803) O dL_law_803 ?_
                            refine E_if_eq (pc := 804) O 809 dL_law_804 (by decide) hf (fun hf => ?_) (fun hf => ?_)
                            · refine E_widen (cs := cs + 1) (ss := ss + 6) (by first | exact Nat.le_refl _ | exact Nat.le_add_right _ _) (by first | exact Nat.le_refl _ | exact Nat.le_add_right _ _) ?_
                              exact E_sub (L' := [some (.ref (RO + 0)), some (.ref x1), some (.ref x2), some (.ref x3), some (.int x4), none, none, none, none]) (And.intro rfl (And.intro rfl (And.intro rfl (And.intro rfl (And.intro rfl True.intro))))) (t_b_L_law_809 O Z hsc hout hcs hss _ hr23 p75.2 x1 x2 x3 x4 hf)
                            · refine E_iconst (pc := 807) O (0 : Int32) dL_law_807 (by decide) ?_
                              exact absurd (os hf) (by rw [hout]; decide)
                        · refine E_iconst (pc := 790) O (0 : Int32) dL_law_790 (by decide) ?_
                          exact absurd (os hf) (by rw [hout]; decide)
                      · refine E_ite hf (fun c39 hf => ?_) (fun n39_10 hf => ?_)
                        · refine E_tswIn (pc := 39) (off := 773) O 10 812 c39 dL_law_39 (by decide) (by decide) (by decide) (by decide) ?_
                          refine E_aload_n (pc := 812) O 1 dL_law_812 rfl rfl ?_
                          refine E_aload_n (pc := 813) O 0 dL_law_813 rfl rfl ?_
                          refine E_iload (pc := 814) O dL_law_814 rfl ?_
                          refine E_iconst (pc := 816) O (1 : Int32) dL_law_816 (by decide) ?_
                          refine E_iadd (pc := 817) O dL_law_817 ?_
                          refine E_ialoadRO (pc := 818) (i := 0) (n := sc.1) (xs := sc.2) O (by decide) hsc dL_law_818 hf (fun v78 hf => ?_)
                          refine E_aload_n (pc := 819) O 3 dL_law_819 rfl rfl ?_
                          refine E_callSW (pc := 820) (S := []) O [.ref x1, .int v78, .ref x3] CW_RailSequenceLaw_123 (fun r e => t_L_append e) dL_law_820 hf rfl ⟨(Nat.le_of_ble_eq_true rfl), (Nat.le_of_ble_eq_true rfl)⟩ ⟨hcs, hss⟩ (Nat.le_of_ble_eq_true rfl) (fun p79 hf => ?_)
                          show EE K (false, cs + 1, ss + 6) _ _ _ _
                          refine E_istore (pc := 823) O [some (.ref (RO + 0)), some (.ref x1), some (.ref x2), some (.ref x3), some (.int x4), some (.int p79.1), none, none, none] dL_law_823 (by decide) rfl rfl ?_
                          refine E_aload_n (pc := 825) O 2 dL_law_825 rfl rfl ?_
                          refine E_aload_n (pc := 826) O 0 dL_law_826 rfl rfl ?_
                          refine E_iload (pc := 827) O dL_law_827 rfl ?_
                          refine E_iconst (pc := 829) O (1 : Int32) dL_law_829 (by decide) ?_
                          refine E_iadd (pc := 830) O dL_law_830 ?_
                          refine E_ialoadRO (pc := 831) (i := 0) (n := sc.1) (xs := sc.2) O (by decide) hsc dL_law_831 hf (fun v80 hf => ?_)
                          refine E_callV_i (pc := 832) (S := []) O [.int v80] CV_RailSequenceLaw_125 rfl (fun r e => t_X4_append e) dL_law_832 hf rfl ⟨(Nat.le_of_ble_eq_true rfl), (Nat.le_of_ble_eq_true rfl)⟩ (by first | exact ⟨hcs, hss⟩ | exact ⟨Nat.le_of_succ_le hcs, Nat.le_trans (Nat.le_add_right _ 6) hss⟩) (Nat.le_of_ble_eq_true rfl) (fun p81 hf => ?_)
                          refine E_istore (pc := 835) O [some (.ref (RO + 0)), some (.ref x1), some (.ref x2), some (.ref x3), some (.int x4), some (.int p79.1), some (.int p81.1), none, none] dL_law_835 (by decide) rfl rfl ?_
                          refine E_aload_n (pc := 837) O 2 dL_law_837 rfl rfl ?_
                          refine E_callV_iP (pc := 838) (S := []) O [] CV_RailSequenceLaw_90 rfl (fun r e => t_X4_thrown e) dL_law_838 hf rfl ⟨(Nat.le_of_ble_eq_true rfl), (Nat.le_of_ble_eq_true rfl)⟩ (by first | exact ⟨hcs, hss⟩ | exact ⟨Nat.le_of_succ_le hcs, Nat.le_trans (Nat.le_add_right _ 6) hss⟩) (Nat.le_of_ble_eq_true rfl) (fun v82 hf => ?_)
                          refine E_iload (pc := 841) O dL_law_841 rfl ?_
                          refine E_icmp_eq (pc := 843) O 848 dL_law_843 (by decide) hf (fun hf => ?_) (fun hf => ?_)
                          · refine E_iload (pc := 848) O dL_law_848 rfl ?_
                            refine E_if_ne (pc := 850) O 865 dL_law_850 (by decide) hf (fun hf => ?_) (fun hf => ?_)
                            · refine E_widen (cs := cs + 1) (ss := ss + 6) (by first | exact Nat.le_refl _ | exact Nat.le_add_right _ _) (by first | exact Nat.le_refl _ | exact Nat.le_add_right _ _) ?_
                              exact E_sub (L' := [some (.ref (RO + 0)), some (.ref x1), some (.ref x2), some (.ref x3), some (.int x4), none, none, none, none]) (And.intro rfl (And.intro rfl (And.intro rfl (And.intro rfl (And.intro rfl True.intro))))) (t_b_L_law_865 O Z hsc hout hcs hss _ hr23 p81.2 x1 x2 x3 x4 hf)
                            · refine E_aload_n (pc := 853) O 3 dL_law_853 rfl rfl ?_
                              refine E_iconst (pc := 854) O (0 : Int32) dL_law_854 (by decide) ?_
                              refine E_laload (pc := 855) O dL_law_855 hf (fun v83 hf => ?_)
                              refine E_iload (pc := 856) O dL_law_856 rfl ?_
                              refine E_i2l (pc := 858) O dL_law_858 ?_
                              refine E_lcmp (pc := 859) O dL_law_859 ?_
                              refine E_if_eq (pc := 860) O 865 dL_law_860 (by decide) hf (fun hf => ?_) (fun hf => ?_)
                              · refine E_widen (cs := cs + 1) (ss := ss + 6) (by first | exact Nat.le_refl _ | exact Nat.le_add_right _ _) (by first | exact Nat.le_refl _ | exact Nat.le_add_right _ _) ?_
                                exact E_sub (L' := [some (.ref (RO + 0)), some (.ref x1), some (.ref x2), some (.ref x3), some (.int x4), none, none, none, none]) (And.intro rfl (And.intro rfl (And.intro rfl (And.intro rfl (And.intro rfl True.intro))))) (t_b_L_law_865 O Z hsc hout hcs hss _ hr23 p81.2 x1 x2 x3 x4 hf)
                              · refine E_iconst (pc := 863) O (0 : Int32) dL_law_863 (by decide) ?_
                                exact absurd (os hf) (by rw [hout]; decide)
                          · refine E_iconst (pc := 846) O (0 : Int32) dL_law_846 (by decide) ?_
                            exact absurd (os hf) (by rw [hout]; decide)
                        · refine E_ite hf (fun c39 hf => ?_) (fun n39_11 hf => ?_)
                          · refine E_tswIn (pc := 39) (off := 829) O 11 868 c39 dL_law_39 (by decide) (by decide) (by decide) (by decide) ?_
                            refine E_aload_n (pc := 868) O 1 dL_law_868 rfl rfl ?_
                            refine E_callV_i (pc := 869) (S := []) O [] CV_RailSequenceLaw_126 rfl (fun r e => t_X3_clearBuffer e) dL_law_869 hf rfl ⟨(Nat.le_of_ble_eq_true rfl), (Nat.le_of_ble_eq_true rfl)⟩ (by first | exact ⟨hcs, hss⟩ | exact ⟨Nat.le_of_succ_le hcs, Nat.le_trans (Nat.le_add_right _ 6) hss⟩) (Nat.le_of_ble_eq_true rfl) (fun p84 hf => ?_)
                            refine E_aload_n (pc := 872) O 2 dL_law_872 rfl rfl ?_
                            refine E_callV_i (pc := 873) (S := [.int p84.1]) O [] CV_RailSequenceLaw_129 rfl (fun r e => t_X4_clearBuffer e) dL_law_873 hf rfl ⟨(Nat.le_of_ble_eq_true rfl), (Nat.le_of_ble_eq_true rfl)⟩ (by first | exact ⟨hcs, hss⟩ | exact ⟨Nat.le_of_succ_le hcs, Nat.le_trans (Nat.le_add_right _ 6) hss⟩) (Nat.le_of_ble_eq_true rfl) (fun p85 hf => ?_)
                            refine E_icmp_eq (pc := 876) O 1515 dL_law_876 (by decide) hf (fun hf => ?_) (fun hf => ?_)
                            · refine E_widen (cs := cs + 1) (ss := ss + 6) (by first | exact Nat.le_refl _ | exact Nat.le_add_right _ _) (by first | exact Nat.le_refl _ | exact Nat.le_add_right _ _) ?_
                              exact t_b_L_law_1515 O Z hsc hout hcs hss _ hr23 p85.2 x1 x2 x3 x4 hf
                            · refine E_iconst (pc := 879) O (0 : Int32) dL_law_879 (by decide) ?_
                              exact absurd (os hf) (by rw [hout]; decide)
                          · refine E_ite hf (fun c39 hf => ?_) (fun n39_12 hf => ?_)
                            · refine E_tswIn (pc := 39) (off := 842) O 12 881 c39 dL_law_39 (by decide) (by decide) (by decide) (by decide) ?_
                              refine E_aload_n (pc := 881) O 1 dL_law_881 rfl rfl ?_
                              refine E_callV_i (pc := 882) (S := []) O [] CV_RailSequenceLaw_130 rfl (fun r e => t_X3_firstError e) dL_law_882 hf rfl ⟨(Nat.le_of_ble_eq_true rfl), (Nat.le_of_ble_eq_true rfl)⟩ (by first | exact ⟨hcs, hss⟩ | exact ⟨Nat.le_of_succ_le hcs, Nat.le_trans (Nat.le_add_right _ 6) hss⟩) (Nat.le_of_ble_eq_true rfl) (fun p86 hf => ?_)
                              refine E_aload_n (pc := 885) O 2 dL_law_885 rfl rfl ?_
                              refine E_callV_i (pc := 886) (S := [.int p86.1]) O [] CV_RailSequenceLaw_133 rfl (fun r e => t_X4_firstError e) dL_law_886 hf rfl ⟨(Nat.le_of_ble_eq_true rfl), (Nat.le_of_ble_eq_true rfl)⟩ (by first | exact ⟨hcs, hss⟩ | exact ⟨Nat.le_of_succ_le hcs, Nat.le_trans (Nat.le_add_right _ 6) hss⟩) (Nat.le_of_ble_eq_true rfl) (fun p87 hf => ?_)
                              refine E_icmp_eq (pc := 889) O 1515 dL_law_889 (by decide) hf (fun hf => ?_) (fun hf => ?_)
                              · refine E_widen (cs := cs + 1) (ss := ss + 6) (by first | exact Nat.le_refl _ | exact Nat.le_add_right _ _) (by first | exact Nat.le_refl _ | exact Nat.le_add_right _ _) ?_
                                exact t_b_L_law_1515 O Z hsc hout hcs hss _ hr23 p87.2 x1 x2 x3 x4 hf
                              · refine E_iconst (pc := 892) O (0 : Int32) dL_law_892 (by decide) ?_
                                exact absurd (os hf) (by rw [hout]; decide)
                            · refine E_ite hf (fun c39 hf => ?_) (fun n39_13 hf => ?_)
                              · refine E_tswIn (pc := 39) (off := 855) O 13 894 c39 dL_law_39 (by decide) (by decide) (by decide) (by decide) ?_
                                refine E_aload_n (pc := 894) O 1 dL_law_894 rfl rfl ?_
                                refine E_aload_n (pc := 895) O 3 dL_law_895 rfl rfl ?_
                                refine E_callSW (pc := 896) (S := []) O [.ref x1, .ref x3] CW_RailSequenceLaw_134 (fun r e => t_L_load e) dL_law_896 hf rfl ⟨(Nat.le_of_ble_eq_true rfl), (Nat.le_of_ble_eq_true rfl)⟩ ⟨hcs, hss⟩ (Nat.le_of_ble_eq_true rfl) (fun p88 hf => ?_)
                                show EE K (false, cs + 1, ss + 6) _ _ _ _
                                refine E_istore (pc := 899) O [some (.ref (RO + 0)), some (.ref x1), some (.ref x2), some (.ref x3), some (.int x4), some (.int p88.1), none, none, none] dL_law_899 (by decide) rfl rfl ?_
                                refine E_aload_n (pc := 901) O 2 dL_law_901 rfl rfl ?_
                                refine E_callV_i (pc := 902) (S := []) O [] CV_RailSequenceLaw_137 rfl (fun r e => t_X4_load e) dL_law_902 hf rfl ⟨(Nat.le_of_ble_eq_true rfl), (Nat.le_of_ble_eq_true rfl)⟩ (by first | exact ⟨hcs, hss⟩ | exact ⟨Nat.le_of_succ_le hcs, Nat.le_trans (Nat.le_add_right _ 6) hss⟩) (Nat.le_of_ble_eq_true rfl) (fun p89 hf => ?_)
                                refine E_istore (pc := 905) O [some (.ref (RO + 0)), some (.ref x1), some (.ref x2), some (.ref x3), some (.int x4), some (.int p88.1), some (.int p89.1), none, none] dL_law_905 (by decide) rfl rfl ?_
                                refine E_aload_n (pc := 907) O 2 dL_law_907 rfl rfl ?_
                                refine E_callV_iP (pc := 908) (S := []) O [] CV_RailSequenceLaw_90 rfl (fun r e => t_X4_thrown e) dL_law_908 hf rfl ⟨(Nat.le_of_ble_eq_true rfl), (Nat.le_of_ble_eq_true rfl)⟩ (by first | exact ⟨hcs, hss⟩ | exact ⟨Nat.le_of_succ_le hcs, Nat.le_trans (Nat.le_add_right _ 6) hss⟩) (Nat.le_of_ble_eq_true rfl) (fun v90 hf => ?_)
                                refine E_iload (pc := 911) O dL_law_911 rfl ?_
                                refine E_icmp_eq (pc := 913) O 918 dL_law_913 (by decide) hf (fun hf => ?_) (fun hf => ?_)
                                · refine E_iload (pc := 918) O dL_law_918 rfl ?_
                                  refine E_if_ne (pc := 920) O 935 dL_law_920 (by decide) hf (fun hf => ?_) (fun hf => ?_)
                                  · refine E_widen (cs := cs + 1) (ss := ss + 6) (by first | exact Nat.le_refl _ | exact Nat.le_add_right _ _) (by first | exact Nat.le_refl _ | exact Nat.le_add_right _ _) ?_
                                    exact E_sub (L' := [some (.ref (RO + 0)), some (.ref x1), some (.ref x2), some (.ref x3), some (.int x4), none, none, none, none]) (And.intro rfl (And.intro rfl (And.intro rfl (And.intro rfl (And.intro rfl True.intro))))) (t_b_L_law_935 O Z hsc hout hcs hss _ hr23 p89.2 x1 x2 x3 x4 hf)
                                  · refine E_aload_n (pc := 923) O 3 dL_law_923 rfl rfl ?_
                                    refine E_iconst (pc := 924) O (0 : Int32) dL_law_924 (by decide) ?_
                                    refine E_laload (pc := 925) O dL_law_925 hf (fun v91 hf => ?_)
                                    refine E_iload (pc := 926) O dL_law_926 rfl ?_
                                    refine E_i2l (pc := 928) O dL_law_928 ?_
                                    refine E_lcmp (pc := 929) O dL_law_929 ?_
                                    refine E_if_eq (pc := 930) O 935 dL_law_930 (by decide) hf (fun hf => ?_) (fun hf => ?_)
                                    · refine E_widen (cs := cs + 1) (ss := ss + 6) (by first | exact Nat.le_refl _ | exact Nat.le_add_right _ _) (by first | exact Nat.le_refl _ | exact Nat.le_add_right _ _) ?_
                                      exact E_sub (L' := [some (.ref (RO + 0)), some (.ref x1), some (.ref x2), some (.ref x3), some (.int x4), none, none, none, none]) (And.intro rfl (And.intro rfl (And.intro rfl (And.intro rfl (And.intro rfl True.intro))))) (t_b_L_law_935 O Z hsc hout hcs hss _ hr23 p89.2 x1 x2 x3 x4 hf)
                                    · refine E_iconst (pc := 933) O (0 : Int32) dL_law_933 (by decide) ?_
                                      exact absurd (os hf) (by rw [hout]; decide)
                                · refine E_iconst (pc := 916) O (0 : Int32) dL_law_916 (by decide) ?_
                                  exact absurd (os hf) (by rw [hout]; decide)
                              · refine E_ite hf (fun c39 hf => ?_) (fun n39_14 hf => ?_)
                                · refine E_tswIn (pc := 39) (off := 899) O 14 938 c39 dL_law_39 (by decide) (by decide) (by decide) (by decide) ?_
                                  refine E_aload_n (pc := 938) O 1 dL_law_938 rfl rfl ?_
                                  refine E_aload_n (pc := 939) O 3 dL_law_939 rfl rfl ?_
                                  refine E_callSW (pc := 940) (S := []) O [.ref x1, .ref x3] CW_RailSequenceLaw_138 (fun r e => t_L_undo e) dL_law_940 hf rfl ⟨(Nat.le_of_ble_eq_true rfl), (Nat.le_of_ble_eq_true rfl)⟩ ⟨hcs, hss⟩ (Nat.le_of_ble_eq_true rfl) (fun p92 hf => ?_)
                                  show EE K (false, cs + 1, ss + 6) _ _ _ _
                                  refine E_istore (pc := 943) O [some (.ref (RO + 0)), some (.ref x1), some (.ref x2), some (.ref x3), some (.int x4), some (.int p92.1), none, none, none] dL_law_943 (by decide) rfl rfl ?_
                                  refine E_aload_n (pc := 945) O 2 dL_law_945 rfl rfl ?_
                                  refine E_callV_i (pc := 946) (S := []) O [] CV_RailSequenceLaw_140 rfl (fun r e => t_X4_undo e) dL_law_946 hf rfl ⟨(Nat.le_of_ble_eq_true rfl), (Nat.le_of_ble_eq_true rfl)⟩ (by first | exact ⟨hcs, hss⟩ | exact ⟨Nat.le_of_succ_le hcs, Nat.le_trans (Nat.le_add_right _ 6) hss⟩) (Nat.le_of_ble_eq_true rfl) (fun p93 hf => ?_)
                                  refine E_istore (pc := 949) O [some (.ref (RO + 0)), some (.ref x1), some (.ref x2), some (.ref x3), some (.int x4), some (.int p92.1), some (.int p93.1), none, none] dL_law_949 (by decide) rfl rfl ?_
                                  refine E_aload_n (pc := 951) O 2 dL_law_951 rfl rfl ?_
                                  refine E_callV_iP (pc := 952) (S := []) O [] CV_RailSequenceLaw_90 rfl (fun r e => t_X4_thrown e) dL_law_952 hf rfl ⟨(Nat.le_of_ble_eq_true rfl), (Nat.le_of_ble_eq_true rfl)⟩ (by first | exact ⟨hcs, hss⟩ | exact ⟨Nat.le_of_succ_le hcs, Nat.le_trans (Nat.le_add_right _ 6) hss⟩) (Nat.le_of_ble_eq_true rfl) (fun v94 hf => ?_)
                                  refine E_iload (pc := 955) O dL_law_955 rfl ?_
                                  refine E_icmp_eq (pc := 957) O 962 dL_law_957 (by decide) hf (fun hf => ?_) (fun hf => ?_)
                                  · refine E_iload (pc := 962) O dL_law_962 rfl ?_
                                    refine E_if_ne (pc := 964) O 979 dL_law_964 (by decide) hf (fun hf => ?_) (fun hf => ?_)
                                    · refine E_widen (cs := cs + 1) (ss := ss + 6) (by first | exact Nat.le_refl _ | exact Nat.le_add_right _ _) (by first | exact Nat.le_refl _ | exact Nat.le_add_right _ _) ?_
                                      exact E_sub (L' := [some (.ref (RO + 0)), some (.ref x1), some (.ref x2), some (.ref x3), some (.int x4), none, none, none, none]) (And.intro rfl (And.intro rfl (And.intro rfl (And.intro rfl (And.intro rfl True.intro))))) (t_b_L_law_979 O Z hsc hout hcs hss _ hr23 p93.2 x1 x2 x3 x4 hf)
                                    · refine E_aload_n (pc := 967) O 3 dL_law_967 rfl rfl ?_
                                      refine E_iconst (pc := 968) O (0 : Int32) dL_law_968 (by decide) ?_
                                      refine E_laload (pc := 969) O dL_law_969 hf (fun v95 hf => ?_)
                                      refine E_iload (pc := 970) O dL_law_970 rfl ?_
                                      refine E_i2l (pc := 972) O dL_law_972 ?_
                                      refine E_lcmp (pc := 973) O dL_law_973 ?_
                                      refine E_if_eq (pc := 974) O 979 dL_law_974 (by decide) hf (fun hf => ?_) (fun hf => ?_)
                                      · refine E_widen (cs := cs + 1) (ss := ss + 6) (by first | exact Nat.le_refl _ | exact Nat.le_add_right _ _) (by first | exact Nat.le_refl _ | exact Nat.le_add_right _ _) ?_
                                        exact E_sub (L' := [some (.ref (RO + 0)), some (.ref x1), some (.ref x2), some (.ref x3), some (.int x4), none, none, none, none]) (And.intro rfl (And.intro rfl (And.intro rfl (And.intro rfl (And.intro rfl True.intro))))) (t_b_L_law_979 O Z hsc hout hcs hss _ hr23 p93.2 x1 x2 x3 x4 hf)
                                      · refine E_iconst (pc := 977) O (0 : Int32) dL_law_977 (by decide) ?_
                                        exact absurd (os hf) (by rw [hout]; decide)
                                  · refine E_iconst (pc := 960) O (0 : Int32) dL_law_960 (by decide) ?_
                                    exact absurd (os hf) (by rw [hout]; decide)
                                · refine E_ite hf (fun c39 hf => ?_) (fun n39_15 hf => ?_)
                                  · refine E_tswIn (pc := 39) (off := 943) O 15 982 c39 dL_law_39 (by decide) (by decide) (by decide) (by decide) ?_
                                    refine E_aload_n (pc := 982) O 1 dL_law_982 rfl rfl ?_
                                    refine E_aload_n (pc := 983) O 0 dL_law_983 rfl rfl ?_
                                    refine E_iload (pc := 984) O dL_law_984 rfl ?_
                                    refine E_iconst (pc := 986) O (1 : Int32) dL_law_986 (by decide) ?_
                                    refine E_iadd (pc := 987) O dL_law_987 ?_
                                    refine E_ialoadRO (pc := 988) (i := 0) (n := sc.1) (xs := sc.2) O (by decide) hsc dL_law_988 hf (fun v96 hf => ?_)
                                    refine E_aload_n (pc := 989) O 0 dL_law_989 rfl rfl ?_
                                    refine E_iload (pc := 990) O dL_law_990 rfl ?_
                                    refine E_iconst (pc := 992) O (2 : Int32) dL_law_992 (by decide) ?_
                                    refine E_iadd (pc := 993) O dL_law_993 ?_
                                    refine E_ialoadRO (pc := 994) (i := 0) (n := sc.1) (xs := sc.2) O (by decide) hsc dL_law_994 hf (fun v97 hf => ?_)
                                    refine E_aload_n (pc := 995) O 3 dL_law_995 rfl rfl ?_
                                    refine E_callSW (pc := 996) (S := []) O [.ref x1, .int v96, .int v97, .ref x3] CW_RailSequenceLaw_141 (fun r e => t_L_rail e) dL_law_996 hf rfl ⟨(Nat.le_of_ble_eq_true rfl), (Nat.le_of_ble_eq_true rfl)⟩ ⟨hcs, hss⟩ (Nat.le_of_ble_eq_true rfl) (fun p98 hf => ?_)
                                    show EE K (false, cs + 1, ss + 6) _ _ _ _
                                    refine E_istore (pc := 999) O [some (.ref (RO + 0)), some (.ref x1), some (.ref x2), some (.ref x3), some (.int x4), some (.int p98.1), none, none, none] dL_law_999 (by decide) rfl rfl ?_
                                    refine E_aload_n (pc := 1001) O 2 dL_law_1001 rfl rfl ?_
                                    refine E_aload_n (pc := 1002) O 0 dL_law_1002 rfl rfl ?_
                                    refine E_iload (pc := 1003) O dL_law_1003 rfl ?_
                                    refine E_iconst (pc := 1005) O (1 : Int32) dL_law_1005 (by decide) ?_
                                    refine E_iadd (pc := 1006) O dL_law_1006 ?_
                                    refine E_ialoadRO (pc := 1007) (i := 0) (n := sc.1) (xs := sc.2) O (by decide) hsc dL_law_1007 hf (fun v99 hf => ?_)
                                    refine E_aload_n (pc := 1008) O 0 dL_law_1008 rfl rfl ?_
                                    refine E_iload (pc := 1009) O dL_law_1009 rfl ?_
                                    refine E_iconst (pc := 1011) O (2 : Int32) dL_law_1011 (by decide) ?_
                                    refine E_iadd (pc := 1012) O dL_law_1012 ?_
                                    refine E_ialoadRO (pc := 1013) (i := 0) (n := sc.1) (xs := sc.2) O (by decide) hsc dL_law_1013 hf (fun v100 hf => ?_)
                                    refine E_callV_i (pc := 1014) (S := []) O [.int v99, .int v100] CV_RailSequenceLaw_143 rfl (fun r e => t_X4_rail e) dL_law_1014 hf rfl ⟨(Nat.le_of_ble_eq_true rfl), (Nat.le_of_ble_eq_true rfl)⟩ (by first | exact ⟨hcs, hss⟩ | exact ⟨Nat.le_of_succ_le hcs, Nat.le_trans (Nat.le_add_right _ 6) hss⟩) (Nat.le_of_ble_eq_true rfl) (fun p101 hf => ?_)
                                    refine E_istore (pc := 1017) O [some (.ref (RO + 0)), some (.ref x1), some (.ref x2), some (.ref x3), some (.int x4), some (.int p98.1), some (.int p101.1), none, none] dL_law_1017 (by decide) rfl rfl ?_
                                    refine E_aload_n (pc := 1019) O 2 dL_law_1019 rfl rfl ?_
                                    refine E_callV_iP (pc := 1020) (S := []) O [] CV_RailSequenceLaw_90 rfl (fun r e => t_X4_thrown e) dL_law_1020 hf rfl ⟨(Nat.le_of_ble_eq_true rfl), (Nat.le_of_ble_eq_true rfl)⟩ (by first | exact ⟨hcs, hss⟩ | exact ⟨Nat.le_of_succ_le hcs, Nat.le_trans (Nat.le_add_right _ 6) hss⟩) (Nat.le_of_ble_eq_true rfl) (fun v102 hf => ?_)
                                    refine E_iload (pc := 1023) O dL_law_1023 rfl ?_
                                    refine E_icmp_eq (pc := 1025) O 1030 dL_law_1025 (by decide) hf (fun hf => ?_) (fun hf => ?_)
                                    · refine E_iload (pc := 1030) O dL_law_1030 rfl ?_
                                      refine E_if_ne (pc := 1032) O 1047 dL_law_1032 (by decide) hf (fun hf => ?_) (fun hf => ?_)
                                      · refine E_widen (cs := cs + 1) (ss := ss + 6) (by first | exact Nat.le_refl _ | exact Nat.le_add_right _ _) (by first | exact Nat.le_refl _ | exact Nat.le_add_right _ _) ?_
                                        exact E_sub (L' := [some (.ref (RO + 0)), some (.ref x1), some (.ref x2), some (.ref x3), some (.int x4), none, none, none, none]) (And.intro rfl (And.intro rfl (And.intro rfl (And.intro rfl (And.intro rfl True.intro))))) (t_b_L_law_1047 O Z hsc hout hcs hss _ hr23 p101.2 x1 x2 x3 x4 hf)
                                      · refine E_aload_n (pc := 1035) O 3 dL_law_1035 rfl rfl ?_
                                        refine E_iconst (pc := 1036) O (0 : Int32) dL_law_1036 (by decide) ?_
                                        refine E_laload (pc := 1037) O dL_law_1037 hf (fun v103 hf => ?_)
                                        refine E_iload (pc := 1038) O dL_law_1038 rfl ?_
                                        refine E_i2l (pc := 1040) O dL_law_1040 ?_
                                        refine E_lcmp (pc := 1041) O dL_law_1041 ?_
                                        refine E_if_eq (pc := 1042) O 1047 dL_law_1042 (by decide) hf (fun hf => ?_) (fun hf => ?_)
                                        · refine E_widen (cs := cs + 1) (ss := ss + 6) (by first | exact Nat.le_refl _ | exact Nat.le_add_right _ _) (by first | exact Nat.le_refl _ | exact Nat.le_add_right _ _) ?_
                                          exact E_sub (L' := [some (.ref (RO + 0)), some (.ref x1), some (.ref x2), some (.ref x3), some (.int x4), none, none, none, none]) (And.intro rfl (And.intro rfl (And.intro rfl (And.intro rfl (And.intro rfl True.intro))))) (t_b_L_law_1047 O Z hsc hout hcs hss _ hr23 p101.2 x1 x2 x3 x4 hf)
                                        · refine E_iconst (pc := 1045) O (0 : Int32) dL_law_1045 (by decide) ?_
                                          exact absurd (os hf) (by rw [hout]; decide)
                                    · refine E_iconst (pc := 1028) O (0 : Int32) dL_law_1028 (by decide) ?_
                                      exact absurd (os hf) (by rw [hout]; decide)
                                  · refine E_ite hf (fun c39 hf => ?_) (fun n39_16 hf => ?_)
                                    · refine E_tswIn (pc := 39) (off := 1011) O 16 1050 c39 dL_law_39 (by decide) (by decide) (by decide) (by decide) ?_
                                      refine E_aload_n (pc := 1050) O 1 dL_law_1050 rfl rfl ?_
                                      refine E_aload_n (pc := 1051) O 0 dL_law_1051 rfl rfl ?_
                                      refine E_iload (pc := 1052) O dL_law_1052 rfl ?_
                                      refine E_iconst (pc := 1054) O (1 : Int32) dL_law_1054 (by decide) ?_
                                      refine E_iadd (pc := 1055) O dL_law_1055 ?_
                                      refine E_ialoadRO (pc := 1056) (i := 0) (n := sc.1) (xs := sc.2) O (by decide) hsc dL_law_1056 hf (fun v104 hf => ?_)
                                      refine E_aload_n (pc := 1057) O 0 dL_law_1057 rfl rfl ?_
                                      refine E_iload (pc := 1058) O dL_law_1058 rfl ?_
                                      refine E_iconst (pc := 1060) O (2 : Int32) dL_law_1060 (by decide) ?_
                                      refine E_iadd (pc := 1061) O dL_law_1061 ?_
                                      refine E_ialoadRO (pc := 1062) (i := 0) (n := sc.1) (xs := sc.2) O (by decide) hsc dL_law_1062 hf (fun v105 hf => ?_)
                                      refine E_aload_n (pc := 1063) O 3 dL_law_1063 rfl rfl ?_
                                      refine E_callSW (pc := 1064) (S := []) O [.ref x1, .int v104, .int v105, .ref x3] CW_RailSequenceLaw_144 (fun r e => t_L_account e) dL_law_1064 hf rfl ⟨(Nat.le_of_ble_eq_true rfl), (Nat.le_of_ble_eq_true rfl)⟩ ⟨hcs, hss⟩ (Nat.le_of_ble_eq_true rfl) (fun p106 hf => ?_)
                                      show EE K (false, cs + 1, ss + 6) _ _ _ _
                                      refine E_istore (pc := 1067) O [some (.ref (RO + 0)), some (.ref x1), some (.ref x2), some (.ref x3), some (.int x4), some (.int p106.1), none, none, none] dL_law_1067 (by decide) rfl rfl ?_
                                      refine E_aload_n (pc := 1069) O 2 dL_law_1069 rfl rfl ?_
                                      refine E_aload_n (pc := 1070) O 0 dL_law_1070 rfl rfl ?_
                                      refine E_iload (pc := 1071) O dL_law_1071 rfl ?_
                                      refine E_iconst (pc := 1073) O (1 : Int32) dL_law_1073 (by decide) ?_
                                      refine E_iadd (pc := 1074) O dL_law_1074 ?_
                                      refine E_ialoadRO (pc := 1075) (i := 0) (n := sc.1) (xs := sc.2) O (by decide) hsc dL_law_1075 hf (fun v107 hf => ?_)
                                      refine E_aload_n (pc := 1076) O 0 dL_law_1076 rfl rfl ?_
                                      refine E_iload (pc := 1077) O dL_law_1077 rfl ?_
                                      refine E_iconst (pc := 1079) O (2 : Int32) dL_law_1079 (by decide) ?_
                                      refine E_iadd (pc := 1080) O dL_law_1080 ?_
                                      refine E_ialoadRO (pc := 1081) (i := 0) (n := sc.1) (xs := sc.2) O (by decide) hsc dL_law_1081 hf (fun v108 hf => ?_)
                                      refine E_callV_i (pc := 1082) (S := []) O [.int v107, .int v108] CV_RailSequenceLaw_146 rfl (fun r e => t_X4_account e) dL_law_1082 hf rfl ⟨(Nat.le_of_ble_eq_true rfl), (Nat.le_of_ble_eq_true rfl)⟩ (by first | exact ⟨hcs, hss⟩ | exact ⟨Nat.le_of_succ_le hcs, Nat.le_trans (Nat.le_add_right _ 6) hss⟩) (Nat.le_of_ble_eq_true rfl) (fun p109 hf => ?_)
                                      refine E_istore (pc := 1085) O [some (.ref (RO + 0)), some (.ref x1), some (.ref x2), some (.ref x3), some (.int x4), some (.int p106.1), some (.int p109.1), none, none] dL_law_1085 (by decide) rfl rfl ?_
                                      refine E_aload_n (pc := 1087) O 2 dL_law_1087 rfl rfl ?_
                                      refine E_callV_iP (pc := 1088) (S := []) O [] CV_RailSequenceLaw_90 rfl (fun r e => t_X4_thrown e) dL_law_1088 hf rfl ⟨(Nat.le_of_ble_eq_true rfl), (Nat.le_of_ble_eq_true rfl)⟩ (by first | exact ⟨hcs, hss⟩ | exact ⟨Nat.le_of_succ_le hcs, Nat.le_trans (Nat.le_add_right _ 6) hss⟩) (Nat.le_of_ble_eq_true rfl) (fun v110 hf => ?_)
                                      refine E_iload (pc := 1091) O dL_law_1091 rfl ?_
                                      refine E_icmp_eq (pc := 1093) O 1098 dL_law_1093 (by decide) hf (fun hf => ?_) (fun hf => ?_)
                                      · refine E_iload (pc := 1098) O dL_law_1098 rfl ?_
                                        refine E_if_ne (pc := 1100) O 1115 dL_law_1100 (by decide) hf (fun hf => ?_) (fun hf => ?_)
                                        · refine E_widen (cs := cs + 1) (ss := ss + 6) (by first | exact Nat.le_refl _ | exact Nat.le_add_right _ _) (by first | exact Nat.le_refl _ | exact Nat.le_add_right _ _) ?_
                                          exact E_sub (L' := [some (.ref (RO + 0)), some (.ref x1), some (.ref x2), some (.ref x3), some (.int x4), none, none, none, none]) (And.intro rfl (And.intro rfl (And.intro rfl (And.intro rfl (And.intro rfl True.intro))))) (t_b_L_law_1115 O Z hsc hout hcs hss _ hr23 p109.2 x1 x2 x3 x4 hf)
                                        · refine E_aload_n (pc := 1103) O 3 dL_law_1103 rfl rfl ?_
                                          refine E_iconst (pc := 1104) O (0 : Int32) dL_law_1104 (by decide) ?_
                                          refine E_laload (pc := 1105) O dL_law_1105 hf (fun v111 hf => ?_)
                                          refine E_iload (pc := 1106) O dL_law_1106 rfl ?_
                                          refine E_i2l (pc := 1108) O dL_law_1108 ?_
                                          refine E_lcmp (pc := 1109) O dL_law_1109 ?_
                                          refine E_if_eq (pc := 1110) O 1115 dL_law_1110 (by decide) hf (fun hf => ?_) (fun hf => ?_)
                                          · refine E_widen (cs := cs + 1) (ss := ss + 6) (by first | exact Nat.le_refl _ | exact Nat.le_add_right _ _) (by first | exact Nat.le_refl _ | exact Nat.le_add_right _ _) ?_
                                            exact E_sub (L' := [some (.ref (RO + 0)), some (.ref x1), some (.ref x2), some (.ref x3), some (.int x4), none, none, none, none]) (And.intro rfl (And.intro rfl (And.intro rfl (And.intro rfl (And.intro rfl True.intro))))) (t_b_L_law_1115 O Z hsc hout hcs hss _ hr23 p109.2 x1 x2 x3 x4 hf)
                                          · refine E_iconst (pc := 1113) O (0 : Int32) dL_law_1113 (by decide) ?_
                                            exact absurd (os hf) (by rw [hout]; decide)
                                      · refine E_iconst (pc := 1096) O (0 : Int32) dL_law_1096 (by decide) ?_
                                        exact absurd (os hf) (by rw [hout]; decide)
                                    · refine E_ite hf (fun c39 hf => ?_) (fun n39_17 hf => ?_)
                                      · refine E_tswIn (pc := 39) (off := 1079) O 17 1118 c39 dL_law_39 (by decide) (by decide) (by decide) (by decide) ?_
                                        refine E_aload_n (pc := 1118) O 1 dL_law_1118 rfl rfl ?_
                                        refine E_aload_n (pc := 1119) O 0 dL_law_1119 rfl rfl ?_
                                        refine E_iload (pc := 1120) O dL_law_1120 rfl ?_
                                        refine E_iconst (pc := 1122) O (1 : Int32) dL_law_1122 (by decide) ?_
                                        refine E_iadd (pc := 1123) O dL_law_1123 ?_
                                        refine E_ialoadRO (pc := 1124) (i := 0) (n := sc.1) (xs := sc.2) O (by decide) hsc dL_law_1124 hf (fun v112 hf => ?_)
                                        refine E_aload_n (pc := 1125) O 0 dL_law_1125 rfl rfl ?_
                                        refine E_iload (pc := 1126) O dL_law_1126 rfl ?_
                                        refine E_iconst (pc := 1128) O (2 : Int32) dL_law_1128 (by decide) ?_
                                        refine E_iadd (pc := 1129) O dL_law_1129 ?_
                                        refine E_ialoadRO (pc := 1130) (i := 0) (n := sc.1) (xs := sc.2) O (by decide) hsc dL_law_1130 hf (fun v113 hf => ?_)
                                        refine E_aload_n (pc := 1131) O 3 dL_law_1131 rfl rfl ?_
                                        refine E_callSW (pc := 1132) (S := []) O [.ref x1, .int v112, .int v113, .ref x3] CW_RailSequenceLaw_147 (fun r e => t_L_entry e) dL_law_1132 hf rfl ⟨(Nat.le_of_ble_eq_true rfl), (Nat.le_of_ble_eq_true rfl)⟩ ⟨hcs, hss⟩ (Nat.le_of_ble_eq_true rfl) (fun p114 hf => ?_)
                                        show EE K (false, cs + 1, ss + 6) _ _ _ _
                                        refine E_istore (pc := 1135) O [some (.ref (RO + 0)), some (.ref x1), some (.ref x2), some (.ref x3), some (.int x4), some (.int p114.1), none, none, none] dL_law_1135 (by decide) rfl rfl ?_
                                        refine E_aload_n (pc := 1137) O 2 dL_law_1137 rfl rfl ?_
                                        refine E_aload_n (pc := 1138) O 0 dL_law_1138 rfl rfl ?_
                                        refine E_iload (pc := 1139) O dL_law_1139 rfl ?_
                                        refine E_iconst (pc := 1141) O (1 : Int32) dL_law_1141 (by decide) ?_
                                        refine E_iadd (pc := 1142) O dL_law_1142 ?_
                                        refine E_ialoadRO (pc := 1143) (i := 0) (n := sc.1) (xs := sc.2) O (by decide) hsc dL_law_1143 hf (fun v115 hf => ?_)
                                        refine E_aload_n (pc := 1144) O 0 dL_law_1144 rfl rfl ?_
                                        refine E_iload (pc := 1145) O dL_law_1145 rfl ?_
                                        refine E_iconst (pc := 1147) O (2 : Int32) dL_law_1147 (by decide) ?_
                                        refine E_iadd (pc := 1148) O dL_law_1148 ?_
                                        refine E_ialoadRO (pc := 1149) (i := 0) (n := sc.1) (xs := sc.2) O (by decide) hsc dL_law_1149 hf (fun v116 hf => ?_)
                                        refine E_callV_i (pc := 1150) (S := []) O [.int v115, .int v116] CV_RailSequenceLaw_149 rfl (fun r e => t_X4_entry e) dL_law_1150 hf rfl ⟨(Nat.le_of_ble_eq_true rfl), (Nat.le_of_ble_eq_true rfl)⟩ (by first | exact ⟨hcs, hss⟩ | exact ⟨Nat.le_of_succ_le hcs, Nat.le_trans (Nat.le_add_right _ 6) hss⟩) (Nat.le_of_ble_eq_true rfl) (fun p117 hf => ?_)
                                        refine E_istore (pc := 1153) O [some (.ref (RO + 0)), some (.ref x1), some (.ref x2), some (.ref x3), some (.int x4), some (.int p114.1), some (.int p117.1), none, none] dL_law_1153 (by decide) rfl rfl ?_
                                        refine E_aload_n (pc := 1155) O 2 dL_law_1155 rfl rfl ?_
                                        refine E_callV_iP (pc := 1156) (S := []) O [] CV_RailSequenceLaw_90 rfl (fun r e => t_X4_thrown e) dL_law_1156 hf rfl ⟨(Nat.le_of_ble_eq_true rfl), (Nat.le_of_ble_eq_true rfl)⟩ (by first | exact ⟨hcs, hss⟩ | exact ⟨Nat.le_of_succ_le hcs, Nat.le_trans (Nat.le_add_right _ 6) hss⟩) (Nat.le_of_ble_eq_true rfl) (fun v118 hf => ?_)
                                        refine E_iload (pc := 1159) O dL_law_1159 rfl ?_
                                        refine E_icmp_eq (pc := 1161) O 1166 dL_law_1161 (by decide) hf (fun hf => ?_) (fun hf => ?_)
                                        · refine E_iload (pc := 1166) O dL_law_1166 rfl ?_
                                          refine E_if_ne (pc := 1168) O 1183 dL_law_1168 (by decide) hf (fun hf => ?_) (fun hf => ?_)
                                          · refine E_widen (cs := cs + 1) (ss := ss + 6) (by first | exact Nat.le_refl _ | exact Nat.le_add_right _ _) (by first | exact Nat.le_refl _ | exact Nat.le_add_right _ _) ?_
                                            exact E_sub (L' := [some (.ref (RO + 0)), some (.ref x1), some (.ref x2), some (.ref x3), some (.int x4), none, none, none, none]) (And.intro rfl (And.intro rfl (And.intro rfl (And.intro rfl (And.intro rfl True.intro))))) (t_b_L_law_1183 O Z hsc hout hcs hss _ hr23 p117.2 x1 x2 x3 x4 hf)
                                          · refine E_aload_n (pc := 1171) O 3 dL_law_1171 rfl rfl ?_
                                            refine E_iconst (pc := 1172) O (0 : Int32) dL_law_1172 (by decide) ?_
                                            refine E_laload (pc := 1173) O dL_law_1173 hf (fun v119 hf => ?_)
                                            refine E_iload (pc := 1174) O dL_law_1174 rfl ?_
                                            refine E_i2l (pc := 1176) O dL_law_1176 ?_
                                            refine E_lcmp (pc := 1177) O dL_law_1177 ?_
                                            refine E_if_eq (pc := 1178) O 1183 dL_law_1178 (by decide) hf (fun hf => ?_) (fun hf => ?_)
                                            · refine E_widen (cs := cs + 1) (ss := ss + 6) (by first | exact Nat.le_refl _ | exact Nat.le_add_right _ _) (by first | exact Nat.le_refl _ | exact Nat.le_add_right _ _) ?_
                                              exact E_sub (L' := [some (.ref (RO + 0)), some (.ref x1), some (.ref x2), some (.ref x3), some (.int x4), none, none, none, none]) (And.intro rfl (And.intro rfl (And.intro rfl (And.intro rfl (And.intro rfl True.intro))))) (t_b_L_law_1183 O Z hsc hout hcs hss _ hr23 p117.2 x1 x2 x3 x4 hf)
                                            · refine E_iconst (pc := 1181) O (0 : Int32) dL_law_1181 (by decide) ?_
                                              exact absurd (os hf) (by rw [hout]; decide)
                                        · refine E_iconst (pc := 1164) O (0 : Int32) dL_law_1164 (by decide) ?_
                                          exact absurd (os hf) (by rw [hout]; decide)
                                      · refine E_ite hf (fun c39 hf => ?_) (fun n39_18 hf => ?_)
                                        · refine E_tswIn (pc := 39) (off := 1147) O 18 1186 c39 dL_law_39 (by decide) (by decide) (by decide) (by decide) ?_
                                          refine E_aload_n (pc := 1186) O 1 dL_law_1186 rfl rfl ?_
                                          refine E_aload_n (pc := 1187) O 0 dL_law_1187 rfl rfl ?_
                                          refine E_iload (pc := 1188) O dL_law_1188 rfl ?_
                                          refine E_iconst (pc := 1190) O (1 : Int32) dL_law_1190 (by decide) ?_
                                          refine E_iadd (pc := 1191) O dL_law_1191 ?_
                                          refine E_ialoadRO (pc := 1192) (i := 0) (n := sc.1) (xs := sc.2) O (by decide) hsc dL_law_1192 hf (fun v120 hf => ?_)
                                          refine E_aload_n (pc := 1193) O 3 dL_law_1193 rfl rfl ?_
                                          refine E_callSW (pc := 1194) (S := []) O [.ref x1, .int v120, .ref x3] CW_RailSequenceLaw_150 (fun r e => t_L_forget e) dL_law_1194 hf rfl ⟨(Nat.le_of_ble_eq_true rfl), (Nat.le_of_ble_eq_true rfl)⟩ ⟨hcs, hss⟩ (Nat.le_of_ble_eq_true rfl) (fun p121 hf => ?_)
                                          show EE K (false, cs + 1, ss + 6) _ _ _ _
                                          refine E_istore (pc := 1197) O [some (.ref (RO + 0)), some (.ref x1), some (.ref x2), some (.ref x3), some (.int x4), some (.int p121.1), none, none, none] dL_law_1197 (by decide) rfl rfl ?_
                                          refine E_aload_n (pc := 1199) O 2 dL_law_1199 rfl rfl ?_
                                          refine E_aload_n (pc := 1200) O 0 dL_law_1200 rfl rfl ?_
                                          refine E_iload (pc := 1201) O dL_law_1201 rfl ?_
                                          refine E_iconst (pc := 1203) O (1 : Int32) dL_law_1203 (by decide) ?_
                                          refine E_iadd (pc := 1204) O dL_law_1204 ?_
                                          refine E_ialoadRO (pc := 1205) (i := 0) (n := sc.1) (xs := sc.2) O (by decide) hsc dL_law_1205 hf (fun v122 hf => ?_)
                                          refine E_callV_i (pc := 1206) (S := []) O [.int v122] CV_RailSequenceLaw_152 rfl (fun r e => t_X4_forget e) dL_law_1206 hf rfl ⟨(Nat.le_of_ble_eq_true rfl), (Nat.le_of_ble_eq_true rfl)⟩ (by first | exact ⟨hcs, hss⟩ | exact ⟨Nat.le_of_succ_le hcs, Nat.le_trans (Nat.le_add_right _ 6) hss⟩) (Nat.le_of_ble_eq_true rfl) (fun p123 hf => ?_)
                                          refine E_istore (pc := 1209) O [some (.ref (RO + 0)), some (.ref x1), some (.ref x2), some (.ref x3), some (.int x4), some (.int p121.1), some (.int p123.1), none, none] dL_law_1209 (by decide) rfl rfl ?_
                                          refine E_aload_n (pc := 1211) O 2 dL_law_1211 rfl rfl ?_
                                          refine E_callV_iP (pc := 1212) (S := []) O [] CV_RailSequenceLaw_90 rfl (fun r e => t_X4_thrown e) dL_law_1212 hf rfl ⟨(Nat.le_of_ble_eq_true rfl), (Nat.le_of_ble_eq_true rfl)⟩ (by first | exact ⟨hcs, hss⟩ | exact ⟨Nat.le_of_succ_le hcs, Nat.le_trans (Nat.le_add_right _ 6) hss⟩) (Nat.le_of_ble_eq_true rfl) (fun v124 hf => ?_)
                                          refine E_iload (pc := 1215) O dL_law_1215 rfl ?_
                                          refine E_icmp_eq (pc := 1217) O 1222 dL_law_1217 (by decide) hf (fun hf => ?_) (fun hf => ?_)
                                          · refine E_iload (pc := 1222) O dL_law_1222 rfl ?_
                                            refine E_if_ne (pc := 1224) O 1239 dL_law_1224 (by decide) hf (fun hf => ?_) (fun hf => ?_)
                                            · refine E_widen (cs := cs + 1) (ss := ss + 6) (by first | exact Nat.le_refl _ | exact Nat.le_add_right _ _) (by first | exact Nat.le_refl _ | exact Nat.le_add_right _ _) ?_
                                              exact E_sub (L' := [some (.ref (RO + 0)), some (.ref x1), some (.ref x2), some (.ref x3), some (.int x4), none, none, none, none]) (And.intro rfl (And.intro rfl (And.intro rfl (And.intro rfl (And.intro rfl True.intro))))) (t_b_L_law_1239 O Z hsc hout hcs hss _ hr23 p123.2 x1 x2 x3 x4 hf)
                                            · refine E_aload_n (pc := 1227) O 3 dL_law_1227 rfl rfl ?_
                                              refine E_iconst (pc := 1228) O (0 : Int32) dL_law_1228 (by decide) ?_
                                              refine E_laload (pc := 1229) O dL_law_1229 hf (fun v125 hf => ?_)
                                              refine E_iload (pc := 1230) O dL_law_1230 rfl ?_
                                              refine E_i2l (pc := 1232) O dL_law_1232 ?_
                                              refine E_lcmp (pc := 1233) O dL_law_1233 ?_
                                              refine E_if_eq (pc := 1234) O 1239 dL_law_1234 (by decide) hf (fun hf => ?_) (fun hf => ?_)
                                              · refine E_widen (cs := cs + 1) (ss := ss + 6) (by first | exact Nat.le_refl _ | exact Nat.le_add_right _ _) (by first | exact Nat.le_refl _ | exact Nat.le_add_right _ _) ?_
                                                exact E_sub (L' := [some (.ref (RO + 0)), some (.ref x1), some (.ref x2), some (.ref x3), some (.int x4), none, none, none, none]) (And.intro rfl (And.intro rfl (And.intro rfl (And.intro rfl (And.intro rfl True.intro))))) (t_b_L_law_1239 O Z hsc hout hcs hss _ hr23 p123.2 x1 x2 x3 x4 hf)
                                              · refine E_iconst (pc := 1237) O (0 : Int32) dL_law_1237 (by decide) ?_
                                                exact absurd (os hf) (by rw [hout]; decide)
                                          · refine E_iconst (pc := 1220) O (0 : Int32) dL_law_1220 (by decide) ?_
                                            exact absurd (os hf) (by rw [hout]; decide)
                                        · refine E_ite hf (fun c39 hf => ?_) (fun n39_19 hf => ?_)
                                          · refine E_tswIn (pc := 39) (off := 1203) O 19 1242 c39 dL_law_39 (by decide) (by decide) (by decide) (by decide) ?_
                                            refine E_aload_n (pc := 1242) O 1 dL_law_1242 rfl rfl ?_
                                            refine E_aload_n (pc := 1243) O 0 dL_law_1243 rfl rfl ?_
                                            refine E_iload (pc := 1244) O dL_law_1244 rfl ?_
                                            refine E_iconst (pc := 1246) O (1 : Int32) dL_law_1246 (by decide) ?_
                                            refine E_iadd (pc := 1247) O dL_law_1247 ?_
                                            refine E_ialoadRO (pc := 1248) (i := 0) (n := sc.1) (xs := sc.2) O (by decide) hsc dL_law_1248 hf (fun v126 hf => ?_)
                                            refine E_aload_n (pc := 1249) O 3 dL_law_1249 rfl rfl ?_
                                            refine E_callSW (pc := 1250) (S := []) O [.ref x1, .int v126, .ref x3] CW_RailSequenceLaw_153 (fun r e => t_L_count e) dL_law_1250 hf rfl ⟨(Nat.le_of_ble_eq_true rfl), (Nat.le_of_ble_eq_true rfl)⟩ ⟨hcs, hss⟩ (Nat.le_of_ble_eq_true rfl) (fun p127 hf => ?_)
                                            show EE K (false, cs + 1, ss + 6) _ _ _ _
                                            refine E_istore (pc := 1253) O [some (.ref (RO + 0)), some (.ref x1), some (.ref x2), some (.ref x3), some (.int x4), some (.int p127.1), none, none, none] dL_law_1253 (by decide) rfl rfl ?_
                                            refine E_aload_n (pc := 1255) O 2 dL_law_1255 rfl rfl ?_
                                            refine E_aload_n (pc := 1256) O 0 dL_law_1256 rfl rfl ?_
                                            refine E_iload (pc := 1257) O dL_law_1257 rfl ?_
                                            refine E_iconst (pc := 1259) O (1 : Int32) dL_law_1259 (by decide) ?_
                                            refine E_iadd (pc := 1260) O dL_law_1260 ?_
                                            refine E_ialoadRO (pc := 1261) (i := 0) (n := sc.1) (xs := sc.2) O (by decide) hsc dL_law_1261 hf (fun v128 hf => ?_)
                                            refine E_callV_i (pc := 1262) (S := []) O [.int v128] CV_RailSequenceLaw_155 rfl (fun r e => t_X4_count e) dL_law_1262 hf rfl ⟨(Nat.le_of_ble_eq_true rfl), (Nat.le_of_ble_eq_true rfl)⟩ (by first | exact ⟨hcs, hss⟩ | exact ⟨Nat.le_of_succ_le hcs, Nat.le_trans (Nat.le_add_right _ 6) hss⟩) (Nat.le_of_ble_eq_true rfl) (fun p129 hf => ?_)
                                            refine E_istore (pc := 1265) O [some (.ref (RO + 0)), some (.ref x1), some (.ref x2), some (.ref x3), some (.int x4), some (.int p127.1), some (.int p129.1), none, none] dL_law_1265 (by decide) rfl rfl ?_
                                            refine E_aload_n (pc := 1267) O 2 dL_law_1267 rfl rfl ?_
                                            refine E_callV_iP (pc := 1268) (S := []) O [] CV_RailSequenceLaw_90 rfl (fun r e => t_X4_thrown e) dL_law_1268 hf rfl ⟨(Nat.le_of_ble_eq_true rfl), (Nat.le_of_ble_eq_true rfl)⟩ (by first | exact ⟨hcs, hss⟩ | exact ⟨Nat.le_of_succ_le hcs, Nat.le_trans (Nat.le_add_right _ 6) hss⟩) (Nat.le_of_ble_eq_true rfl) (fun v130 hf => ?_)
                                            refine E_iload (pc := 1271) O dL_law_1271 rfl ?_
                                            refine E_icmp_eq (pc := 1273) O 1278 dL_law_1273 (by decide) hf (fun hf => ?_) (fun hf => ?_)
                                            · refine E_iload (pc := 1278) O dL_law_1278 rfl ?_
                                              refine E_if_ne (pc := 1280) O 1295 dL_law_1280 (by decide) hf (fun hf => ?_) (fun hf => ?_)
                                              · refine E_widen (cs := cs + 1) (ss := ss + 6) (by first | exact Nat.le_refl _ | exact Nat.le_add_right _ _) (by first | exact Nat.le_refl _ | exact Nat.le_add_right _ _) ?_
                                                exact E_sub (L' := [some (.ref (RO + 0)), some (.ref x1), some (.ref x2), some (.ref x3), some (.int x4), none, none, none, none]) (And.intro rfl (And.intro rfl (And.intro rfl (And.intro rfl (And.intro rfl True.intro))))) (t_b_L_law_1295 O Z hsc hout hcs hss _ hr23 p129.2 x1 x2 x3 x4 hf)
                                              · refine E_aload_n (pc := 1283) O 3 dL_law_1283 rfl rfl ?_
                                                refine E_iconst (pc := 1284) O (0 : Int32) dL_law_1284 (by decide) ?_
                                                refine E_laload (pc := 1285) O dL_law_1285 hf (fun v131 hf => ?_)
                                                refine E_iload (pc := 1286) O dL_law_1286 rfl ?_
                                                refine E_i2l (pc := 1288) O dL_law_1288 ?_
                                                refine E_lcmp (pc := 1289) O dL_law_1289 ?_
                                                refine E_if_eq (pc := 1290) O 1295 dL_law_1290 (by decide) hf (fun hf => ?_) (fun hf => ?_)
                                                · refine E_widen (cs := cs + 1) (ss := ss + 6) (by first | exact Nat.le_refl _ | exact Nat.le_add_right _ _) (by first | exact Nat.le_refl _ | exact Nat.le_add_right _ _) ?_
                                                  exact E_sub (L' := [some (.ref (RO + 0)), some (.ref x1), some (.ref x2), some (.ref x3), some (.int x4), none, none, none, none]) (And.intro rfl (And.intro rfl (And.intro rfl (And.intro rfl (And.intro rfl True.intro))))) (t_b_L_law_1295 O Z hsc hout hcs hss _ hr23 p129.2 x1 x2 x3 x4 hf)
                                                · refine E_iconst (pc := 1293) O (0 : Int32) dL_law_1293 (by decide) ?_
                                                  exact absurd (os hf) (by rw [hout]; decide)
                                            · refine E_iconst (pc := 1276) O (0 : Int32) dL_law_1276 (by decide) ?_
                                              exact absurd (os hf) (by rw [hout]; decide)
                                          · refine E_ite hf (fun c39 hf => ?_) (fun n39_20 hf => ?_)
                                            · refine E_tswIn (pc := 39) (off := 1259) O 20 1298 c39 dL_law_39 (by decide) (by decide) (by decide) (by decide) ?_
                                              refine E_aload_n (pc := 1298) O 1 dL_law_1298 rfl rfl ?_
                                              refine E_callV_i (pc := 1299) (S := []) O [] CV_RailSequenceLaw_156 rfl (fun r e => t_X3_allGoodIn e) dL_law_1299 hf rfl ⟨(Nat.le_of_ble_eq_true rfl), (Nat.le_of_ble_eq_true rfl)⟩ (by first | exact ⟨hcs, hss⟩ | exact ⟨Nat.le_of_succ_le hcs, Nat.le_trans (Nat.le_add_right _ 6) hss⟩) (Nat.le_of_ble_eq_true rfl) (fun p132 hf => ?_)
                                              refine E_aload_n (pc := 1302) O 2 dL_law_1302 rfl rfl ?_
                                              refine E_callV_i (pc := 1303) (S := [.int p132.1]) O [] CV_RailSequenceLaw_159 rfl (fun r e => t_X4_allGoodIn e) dL_law_1303 hf rfl ⟨(Nat.le_of_ble_eq_true rfl), (Nat.le_of_ble_eq_true rfl)⟩ (by first | exact ⟨hcs, hss⟩ | exact ⟨Nat.le_of_succ_le hcs, Nat.le_trans (Nat.le_add_right _ 6) hss⟩) (Nat.le_of_ble_eq_true rfl) (fun p133 hf => ?_)
                                              refine E_icmp_eq (pc := 1306) O 1515 dL_law_1306 (by decide) hf (fun hf => ?_) (fun hf => ?_)
                                              · refine E_widen (cs := cs + 1) (ss := ss + 6) (by first | exact Nat.le_refl _ | exact Nat.le_add_right _ _) (by first | exact Nat.le_refl _ | exact Nat.le_add_right _ _) ?_
                                                exact t_b_L_law_1515 O Z hsc hout hcs hss _ hr23 p133.2 x1 x2 x3 x4 hf
                                              · refine E_iconst (pc := 1309) O (0 : Int32) dL_law_1309 (by decide) ?_
                                                exact absurd (os hf) (by rw [hout]; decide)
                                            · refine E_ite hf (fun c39 hf => ?_) (fun n39_21 hf => ?_)
                                              · refine E_tswIn (pc := 39) (off := 1272) O 21 1311 c39 dL_law_39 (by decide) (by decide) (by decide) (by decide) ?_
                                                refine E_aload_n (pc := 1311) O 1 dL_law_1311 rfl rfl ?_
                                                refine E_callV_i (pc := 1312) (S := []) O [] CV_RailSequenceLaw_160 rfl (fun r e => t_X3_allOffIn e) dL_law_1312 hf rfl ⟨(Nat.le_of_ble_eq_true rfl), (Nat.le_of_ble_eq_true rfl)⟩ (by first | exact ⟨hcs, hss⟩ | exact ⟨Nat.le_of_succ_le hcs, Nat.le_trans (Nat.le_add_right _ 6) hss⟩) (Nat.le_of_ble_eq_true rfl) (fun p134 hf => ?_)
                                                refine E_aload_n (pc := 1315) O 2 dL_law_1315 rfl rfl ?_
                                                refine E_callV_i (pc := 1316) (S := [.int p134.1]) O [] CV_RailSequenceLaw_163 rfl (fun r e => t_X4_allOffIn e) dL_law_1316 hf rfl ⟨(Nat.le_of_ble_eq_true rfl), (Nat.le_of_ble_eq_true rfl)⟩ (by first | exact ⟨hcs, hss⟩ | exact ⟨Nat.le_of_succ_le hcs, Nat.le_trans (Nat.le_add_right _ 6) hss⟩) (Nat.le_of_ble_eq_true rfl) (fun p135 hf => ?_)
                                                refine E_icmp_eq (pc := 1319) O 1515 dL_law_1319 (by decide) hf (fun hf => ?_) (fun hf => ?_)
                                                · refine E_widen (cs := cs + 1) (ss := ss + 6) (by first | exact Nat.le_refl _ | exact Nat.le_add_right _ _) (by first | exact Nat.le_refl _ | exact Nat.le_add_right _ _) ?_
                                                  exact t_b_L_law_1515 O Z hsc hout hcs hss _ hr23 p135.2 x1 x2 x3 x4 hf
                                                · refine E_iconst (pc := 1322) O (0 : Int32) dL_law_1322 (by decide) ?_
                                                  exact absurd (os hf) (by rw [hout]; decide)
                                              · refine E_ite hf (fun c39 hf => ?_) (fun n39_22 hf => ?_)
                                                · refine E_tswIn (pc := 39) (off := 1285) O 22 1324 c39 dL_law_39 (by decide) (by decide) (by decide) (by decide) ?_
                                                  refine E_aload_n (pc := 1324) O 1 dL_law_1324 rfl rfl ?_
                                                  refine E_aload_n (pc := 1325) O 0 dL_law_1325 rfl rfl ?_
                                                  refine E_iload (pc := 1326) O dL_law_1326 rfl ?_
                                                  refine E_iconst (pc := 1328) O (1 : Int32) dL_law_1328 (by decide) ?_
                                                  refine E_iadd (pc := 1329) O dL_law_1329 ?_
                                                  refine E_ialoadRO (pc := 1330) (i := 0) (n := sc.1) (xs := sc.2) O (by decide) hsc dL_law_1330 hf (fun v136 hf => ?_)
                                                  refine E_aload_n (pc := 1331) O 0 dL_law_1331 rfl rfl ?_
                                                  refine E_iload (pc := 1332) O dL_law_1332 rfl ?_
                                                  refine E_iconst (pc := 1334) O (2 : Int32) dL_law_1334 (by decide) ?_
                                                  refine E_iadd (pc := 1335) O dL_law_1335 ?_
                                                  refine E_ialoadRO (pc := 1336) (i := 0) (n := sc.1) (xs := sc.2) O (by decide) hsc dL_law_1336 hf (fun v137 hf => ?_)
                                                  refine E_aload_n (pc := 1337) O 0 dL_law_1337 rfl rfl ?_
                                                  refine E_iload (pc := 1338) O dL_law_1338 rfl ?_
                                                  refine E_iconst (pc := 1340) O (3 : Int32) dL_law_1340 (by decide) ?_
                                                  refine E_iadd (pc := 1341) O dL_law_1341 ?_
                                                  refine E_ialoadRO (pc := 1342) (i := 0) (n := sc.1) (xs := sc.2) O (by decide) hsc dL_law_1342 hf (fun v138 hf => ?_)
                                                  refine E_aload_n (pc := 1343) O 3 dL_law_1343 rfl rfl ?_
                                                  refine E_callSW (pc := 1344) (S := []) O [.ref x1, .int v136, .int v137, .int v138, .ref x3] CW_RailSequenceLaw_164 (fun r e => t_L_ifShort e) dL_law_1344 hf rfl ⟨(Nat.le_of_ble_eq_true rfl), (Nat.le_of_ble_eq_true rfl)⟩ ⟨hcs, hss⟩ (Nat.le_of_ble_eq_true rfl) (fun p139 hf => ?_)
                                                  show EE K (false, cs + 1, ss + 6) _ _ _ _
                                                  refine E_istore (pc := 1347) O [some (.ref (RO + 0)), some (.ref x1), some (.ref x2), some (.ref x3), some (.int x4), some (.int p139.1), none, none, none] dL_law_1347 (by decide) rfl rfl ?_
                                                  refine E_aload_n (pc := 1349) O 2 dL_law_1349 rfl rfl ?_
                                                  refine E_aload_n (pc := 1350) O 0 dL_law_1350 rfl rfl ?_
                                                  refine E_iload (pc := 1351) O dL_law_1351 rfl ?_
                                                  refine E_iconst (pc := 1353) O (1 : Int32) dL_law_1353 (by decide) ?_
                                                  refine E_iadd (pc := 1354) O dL_law_1354 ?_
                                                  refine E_ialoadRO (pc := 1355) (i := 0) (n := sc.1) (xs := sc.2) O (by decide) hsc dL_law_1355 hf (fun v140 hf => ?_)
                                                  refine E_aload_n (pc := 1356) O 0 dL_law_1356 rfl rfl ?_
                                                  refine E_iload (pc := 1357) O dL_law_1357 rfl ?_
                                                  refine E_iconst (pc := 1359) O (2 : Int32) dL_law_1359 (by decide) ?_
                                                  refine E_iadd (pc := 1360) O dL_law_1360 ?_
                                                  refine E_ialoadRO (pc := 1361) (i := 0) (n := sc.1) (xs := sc.2) O (by decide) hsc dL_law_1361 hf (fun v141 hf => ?_)
                                                  refine E_aload_n (pc := 1362) O 0 dL_law_1362 rfl rfl ?_
                                                  refine E_iload (pc := 1363) O dL_law_1363 rfl ?_
                                                  refine E_iconst (pc := 1365) O (3 : Int32) dL_law_1365 (by decide) ?_
                                                  refine E_iadd (pc := 1366) O dL_law_1366 ?_
                                                  refine E_ialoadRO (pc := 1367) (i := 0) (n := sc.1) (xs := sc.2) O (by decide) hsc dL_law_1367 hf (fun v142 hf => ?_)
                                                  refine E_callV_i (pc := 1368) (S := []) O [.int v140, .int v141, .int v142] CV_RailSequenceLaw_166 rfl (fun r e => t_X4_ifShort e) dL_law_1368 hf rfl ⟨(Nat.le_of_ble_eq_true rfl), (Nat.le_of_ble_eq_true rfl)⟩ (by first | exact ⟨hcs, hss⟩ | exact ⟨Nat.le_of_succ_le hcs, Nat.le_trans (Nat.le_add_right _ 6) hss⟩) (Nat.le_of_ble_eq_true rfl) (fun p143 hf => ?_)
                                                  refine E_istore (pc := 1371) O [some (.ref (RO + 0)), some (.ref x1), some (.ref x2), some (.ref x3), some (.int x4), some (.int p139.1), some (.int p143.1), none, none] dL_law_1371 (by decide) rfl rfl ?_
                                                  refine E_aload_n (pc := 1373) O 2 dL_law_1373 rfl rfl ?_
                                                  refine E_callV_iP (pc := 1374) (S := []) O [] CV_RailSequenceLaw_90 rfl (fun r e => t_X4_thrown e) dL_law_1374 hf rfl ⟨(Nat.le_of_ble_eq_true rfl), (Nat.le_of_ble_eq_true rfl)⟩ (by first | exact ⟨hcs, hss⟩ | exact ⟨Nat.le_of_succ_le hcs, Nat.le_trans (Nat.le_add_right _ 6) hss⟩) (Nat.le_of_ble_eq_true rfl) (fun v144 hf => ?_)
                                                  refine E_iload (pc := 1377) O dL_law_1377 rfl ?_
                                                  refine E_icmp_eq (pc := 1379) O 1384 dL_law_1379 (by decide) hf (fun hf => ?_) (fun hf => ?_)
                                                  · refine E_iload (pc := 1384) O dL_law_1384 rfl ?_
                                                    refine E_if_ne (pc := 1386) O 1401 dL_law_1386 (by decide) hf (fun hf => ?_) (fun hf => ?_)
                                                    · refine E_widen (cs := cs + 1) (ss := ss + 6) (by first | exact Nat.le_refl _ | exact Nat.le_add_right _ _) (by first | exact Nat.le_refl _ | exact Nat.le_add_right _ _) ?_
                                                      exact E_sub (L' := [some (.ref (RO + 0)), some (.ref x1), some (.ref x2), some (.ref x3), some (.int x4), none, none, none, none]) (And.intro rfl (And.intro rfl (And.intro rfl (And.intro rfl (And.intro rfl True.intro))))) (t_b_L_law_1401 O Z hsc hout hcs hss _ hr23 p143.2 x1 x2 x3 x4 hf)
                                                    · refine E_aload_n (pc := 1389) O 3 dL_law_1389 rfl rfl ?_
                                                      refine E_iconst (pc := 1390) O (0 : Int32) dL_law_1390 (by decide) ?_
                                                      refine E_laload (pc := 1391) O dL_law_1391 hf (fun v145 hf => ?_)
                                                      refine E_iload (pc := 1392) O dL_law_1392 rfl ?_
                                                      refine E_i2l (pc := 1394) O dL_law_1394 ?_
                                                      refine E_lcmp (pc := 1395) O dL_law_1395 ?_
                                                      refine E_if_eq (pc := 1396) O 1401 dL_law_1396 (by decide) hf (fun hf => ?_) (fun hf => ?_)
                                                      · refine E_widen (cs := cs + 1) (ss := ss + 6) (by first | exact Nat.le_refl _ | exact Nat.le_add_right _ _) (by first | exact Nat.le_refl _ | exact Nat.le_add_right _ _) ?_
                                                        exact E_sub (L' := [some (.ref (RO + 0)), some (.ref x1), some (.ref x2), some (.ref x3), some (.int x4), none, none, none, none]) (And.intro rfl (And.intro rfl (And.intro rfl (And.intro rfl (And.intro rfl True.intro))))) (t_b_L_law_1401 O Z hsc hout hcs hss _ hr23 p143.2 x1 x2 x3 x4 hf)
                                                      · refine E_iconst (pc := 1399) O (0 : Int32) dL_law_1399 (by decide) ?_
                                                        exact absurd (os hf) (by rw [hout]; decide)
                                                  · refine E_iconst (pc := 1382) O (0 : Int32) dL_law_1382 (by decide) ?_
                                                    exact absurd (os hf) (by rw [hout]; decide)
                                                · refine E_ite hf (fun c39 hf => ?_) (fun n39_23 hf => ?_)
                                                  · refine E_tswIn (pc := 39) (off := 1365) O 23 1404 c39 dL_law_39 (by decide) (by decide) (by decide) (by decide) ?_
                                                    refine E_aload_n (pc := 1404) O 1 dL_law_1404 rfl rfl ?_
                                                    refine E_aload_n (pc := 1405) O 0 dL_law_1405 rfl rfl ?_
                                                    refine E_iload (pc := 1406) O dL_law_1406 rfl ?_
                                                    refine E_iconst (pc := 1408) O (1 : Int32) dL_law_1408 (by decide) ?_
                                                    refine E_iadd (pc := 1409) O dL_law_1409 ?_
                                                    refine E_ialoadRO (pc := 1410) (i := 0) (n := sc.1) (xs := sc.2) O (by decide) hsc dL_law_1410 hf (fun v146 hf => ?_)
                                                    refine E_aload_n (pc := 1411) O 3 dL_law_1411 rfl rfl ?_
                                                    refine E_callSW (pc := 1412) (S := []) O [.ref x1, .int v146, .ref x3] CW_RailSequenceLaw_167 (fun r e => t_L_leastPatience e) dL_law_1412 hf rfl ⟨(Nat.le_of_ble_eq_true rfl), (Nat.le_of_ble_eq_true rfl)⟩ ⟨hcs, hss⟩ (Nat.le_of_ble_eq_true rfl) (fun p147 hf => ?_)
                                                    show EE K (false, cs + 1, ss + 6) _ _ _ _
                                                    refine E_istore (pc := 1415) O [some (.ref (RO + 0)), some (.ref x1), some (.ref x2), some (.ref x3), some (.int x4), some (.int p147.1), none, none, none] dL_law_1415 (by decide) rfl rfl ?_
                                                    refine E_aload_n (pc := 1417) O 2 dL_law_1417 rfl rfl ?_
                                                    refine E_aload_n (pc := 1418) O 0 dL_law_1418 rfl rfl ?_
                                                    refine E_iload (pc := 1419) O dL_law_1419 rfl ?_
                                                    refine E_iconst (pc := 1421) O (1 : Int32) dL_law_1421 (by decide) ?_
                                                    refine E_iadd (pc := 1422) O dL_law_1422 ?_
                                                    refine E_ialoadRO (pc := 1423) (i := 0) (n := sc.1) (xs := sc.2) O (by decide) hsc dL_law_1423 hf (fun v148 hf => ?_)
                                                    refine E_callV_i (pc := 1424) (S := []) O [.int v148] CV_RailSequenceLaw_169 rfl (fun r e => t_X4_leastPatience e) dL_law_1424 hf rfl ⟨(Nat.le_of_ble_eq_true rfl), (Nat.le_of_ble_eq_true rfl)⟩ (by first | exact ⟨hcs, hss⟩ | exact ⟨Nat.le_of_succ_le hcs, Nat.le_trans (Nat.le_add_right _ 6) hss⟩) (Nat.le_of_ble_eq_true rfl) (fun p149 hf => ?_)
                                                    refine E_istore (pc := 1427) O [some (.ref (RO + 0)), some (.ref x1), some (.ref x2), some (.ref x3), some (.int x4), some (.int p147.1), some (.int p149.1), none, none] dL_law_1427 (by decide) rfl rfl ?_
                                                    refine E_aload_n (pc := 1429) O 2 dL_law_1429 rfl rfl ?_
                                                    refine E_callV_iP (pc := 1430) (S := []) O [] CV_RailSequenceLaw_90 rfl (fun r e => t_X4_thrown e) dL_law_1430 hf rfl ⟨(Nat.le_of_ble_eq_true rfl), (Nat.le_of_ble_eq_true rfl)⟩ (by first | exact ⟨hcs, hss⟩ | exact ⟨Nat.le_of_succ_le hcs, Nat.le_trans (Nat.le_add_right _ 6) hss⟩) (Nat.le_of_ble_eq_true rfl) (fun v150 hf => ?_)
                                                    refine E_iload (pc := 1433) O dL_law_1433 rfl ?_
                                                    refine E_icmp_eq (pc := 1435) O 1440 dL_law_1435 (by decide) hf (fun hf => ?_) (fun hf => ?_)
                                                    · refine E_iload (pc := 1440) O dL_law_1440 rfl ?_
                                                      refine E_if_ne (pc := 1442) O 1457 dL_law_1442 (by decide) hf (fun hf => ?_) (fun hf => ?_)
                                                      · refine E_widen (cs := cs + 1) (ss := ss + 6) (by first | exact Nat.le_refl _ | exact Nat.le_add_right _ _) (by first | exact Nat.le_refl _ | exact Nat.le_add_right _ _) ?_
                                                        exact E_sub (L' := [some (.ref (RO + 0)), some (.ref x1), some (.ref x2), some (.ref x3), some (.int x4), none, none, none, none]) (And.intro rfl (And.intro rfl (And.intro rfl (And.intro rfl (And.intro rfl True.intro))))) (t_b_L_law_1457 O Z hsc hout hcs hss _ hr23 p149.2 x1 x2 x3 x4 hf)
                                                      · refine E_aload_n (pc := 1445) O 3 dL_law_1445 rfl rfl ?_
                                                        refine E_iconst (pc := 1446) O (0 : Int32) dL_law_1446 (by decide) ?_
                                                        refine E_laload (pc := 1447) O dL_law_1447 hf (fun v151 hf => ?_)
                                                        refine E_iload (pc := 1448) O dL_law_1448 rfl ?_
                                                        refine E_i2l (pc := 1450) O dL_law_1450 ?_
                                                        refine E_lcmp (pc := 1451) O dL_law_1451 ?_
                                                        refine E_if_eq (pc := 1452) O 1457 dL_law_1452 (by decide) hf (fun hf => ?_) (fun hf => ?_)
                                                        · refine E_widen (cs := cs + 1) (ss := ss + 6) (by first | exact Nat.le_refl _ | exact Nat.le_add_right _ _) (by first | exact Nat.le_refl _ | exact Nat.le_add_right _ _) ?_
                                                          exact E_sub (L' := [some (.ref (RO + 0)), some (.ref x1), some (.ref x2), some (.ref x3), some (.int x4), none, none, none, none]) (And.intro rfl (And.intro rfl (And.intro rfl (And.intro rfl (And.intro rfl True.intro))))) (t_b_L_law_1457 O Z hsc hout hcs hss _ hr23 p149.2 x1 x2 x3 x4 hf)
                                                        · refine E_iconst (pc := 1455) O (0 : Int32) dL_law_1455 (by decide) ?_
                                                          exact absurd (os hf) (by rw [hout]; decide)
                                                    · refine E_iconst (pc := 1438) O (0 : Int32) dL_law_1438 (by decide) ?_
                                                      exact absurd (os hf) (by rw [hout]; decide)
                                                  · refine E_ite hf (fun c39 hf => ?_) (fun n39_24 hf => ?_)
                                                    · refine E_tswIn (pc := 39) (off := 1421) O 24 1460 c39 dL_law_39 (by decide) (by decide) (by decide) (by decide) ?_
                                                      refine E_aload_n (pc := 1460) O 1 dL_law_1460 rfl rfl ?_
                                                      refine E_callV_dP (pc := 1461) (S := []) O [] CV_RailSequenceLaw_170 rfl (fun r e => t_X3_goodShare e) dL_law_1461 hf rfl ⟨(Nat.le_of_ble_eq_true rfl), (Nat.le_of_ble_eq_true rfl)⟩ (by first | exact ⟨hcs, hss⟩ | exact ⟨Nat.le_of_succ_le hcs, Nat.le_trans (Nat.le_add_right _ 6) hss⟩) (Nat.le_of_ble_eq_true rfl) (fun v152 hf => ?_)
                                                      refine E_dstore (pc := 1464) O [some (.ref (RO + 0)), some (.ref x1), some (.ref x2), some (.ref x3), some (.int x4), some (.double v152), none, none, none] dL_law_1464 (by decide) rfl rfl ?_
                                                      refine E_aload_n (pc := 1466) O 2 dL_law_1466 rfl rfl ?_
                                                      refine E_callV_d (pc := 1467) (S := []) O [] CV_RailSequenceLaw_174 rfl (fun r e => t_X4_goodShare e) dL_law_1467 hf rfl ⟨(Nat.le_of_ble_eq_true rfl), (Nat.le_of_ble_eq_true rfl)⟩ (by first | exact ⟨hcs, hss⟩ | exact ⟨Nat.le_of_succ_le hcs, Nat.le_trans (Nat.le_add_right _ 6) hss⟩) (Nat.le_of_ble_eq_true rfl) (fun p153 hf => ?_)
                                                      refine E_dstore (pc := 1470) O [some (.ref (RO + 0)), some (.ref x1), some (.ref x2), some (.ref x3), some (.int x4), some (.double v152), none, some (.double p153.1), none] dL_law_1470 (by decide) rfl rfl ?_
                                                      refine E_dload (pc := 1472) O dL_law_1472 rfl ?_
                                                      refine E_dload (pc := 1474) O dL_law_1474 rfl ?_
                                                      refine E_dcmp (pc := 1476) O dL_law_1476 ?_
                                                      refine E_if_eq (pc := 1477) O 1498 dL_law_1477 (by decide) hf (fun hf => ?_) (fun hf => ?_)
                                                      · refine E_widen (cs := cs + 1) (ss := ss + 6) (by first | exact Nat.le_refl _ | exact Nat.le_add_right _ _) (by first | exact Nat.le_refl _ | exact Nat.le_add_right _ _) ?_
                                                        exact E_sub (L' := [some (.ref (RO + 0)), some (.ref x1), some (.ref x2), some (.ref x3), some (.int x4), none, none, none, none]) (And.intro rfl (And.intro rfl (And.intro rfl (And.intro rfl (And.intro rfl True.intro))))) (t_b_L_law_1498 O Z hsc hout hcs hss _ hr23 p153.2 x1 x2 x3 x4 hf)
                                                      · refine E_dload (pc := 1480) O dL_law_1480 rfl ?_
                                                        refine E_dload (pc := 1482) O dL_law_1482 rfl ?_
                                                        refine E_dcmp (pc := 1484) O dL_law_1484 ?_
                                                        refine E_if_eq (pc := 1485) O 1496 dL_law_1485 (by decide) hf (fun hf => ?_) (fun hf => ?_)
                                                        · refine E_widen (cs := cs + 1) (ss := ss + 6) (by first | exact Nat.le_refl _ | exact Nat.le_add_right _ _) (by first | exact Nat.le_refl _ | exact Nat.le_add_right _ _) ?_
                                                          exact E_sub (L' := [none, none, none, none, none, none, none, none, none]) True.intro (t_b_L_law_1496 O Z hsc hout hcs hss p153.2 hf)
                                                        · refine E_dload (pc := 1488) O dL_law_1488 rfl ?_
                                                          refine E_dload (pc := 1490) O dL_law_1490 rfl ?_
                                                          refine E_dcmp (pc := 1492) O dL_law_1492 ?_
                                                          refine E_if_ne (pc := 1493) O 1498 dL_law_1493 (by decide) hf (fun hf => ?_) (fun hf => ?_)
                                                          · refine E_widen (cs := cs + 1) (ss := ss + 6) (by first | exact Nat.le_refl _ | exact Nat.le_add_right _ _) (by first | exact Nat.le_refl _ | exact Nat.le_add_right _ _) ?_
                                                            exact E_sub (L' := [some (.ref (RO + 0)), some (.ref x1), some (.ref x2), some (.ref x3), some (.int x4), none, none, none, none]) (And.intro rfl (And.intro rfl (And.intro rfl (And.intro rfl (And.intro rfl True.intro))))) (t_b_L_law_1498 O Z hsc hout hcs hss _ hr23 p153.2 x1 x2 x3 x4 hf)
                                                          · refine E_widen (cs := cs + 1) (ss := ss + 6) (by first | exact Nat.le_refl _ | exact Nat.le_add_right _ _) (by first | exact Nat.le_refl _ | exact Nat.le_add_right _ _) ?_
                                                            exact E_sub (L' := [none, none, none, none, none, none, none, none, none]) True.intro (t_b_L_law_1496 O Z hsc hout hcs hss p153.2 hf)
                                                    · refine E_ite hf (fun c39 hf => ?_) (fun n39_25 hf => ?_)
                                                      · refine E_tswIn (pc := 39) (off := 1462) O 25 1501 c39 dL_law_39 (by decide) (by decide) (by decide) (by decide) ?_
                                                        refine E_aload_n (pc := 1501) O 1 dL_law_1501 rfl rfl ?_
                                                        refine E_callV_l (pc := 1502) (S := []) O [] CV_RailSequenceLaw_175 rfl (fun r e => t_X3_digest e) dL_law_1502 hf rfl ⟨(Nat.le_of_ble_eq_true rfl), (Nat.le_of_ble_eq_true rfl)⟩ (by first | exact ⟨hcs, hss⟩ | exact ⟨Nat.le_of_succ_le hcs, Nat.le_trans (Nat.le_add_right _ 6) hss⟩) (Nat.le_of_ble_eq_true rfl) (fun p154 hf => ?_)
                                                        refine E_aload_n (pc := 1505) O 2 dL_law_1505 rfl rfl ?_
                                                        refine E_callV_l (pc := 1506) (S := [.long p154.1]) O [] CV_RailSequenceLaw_179 rfl (fun r e => t_X4_digest e) dL_law_1506 hf rfl ⟨(Nat.le_of_ble_eq_true rfl), (Nat.le_of_ble_eq_true rfl)⟩ (by first | exact ⟨hcs, hss⟩ | exact ⟨Nat.le_of_succ_le hcs, Nat.le_trans (Nat.le_add_right _ 6) hss⟩) (Nat.le_of_ble_eq_true rfl) (fun p155 hf => ?_)
                                                        refine E_lcmp (pc := 1509) O dL_law_1509 ?_
                                                        refine E_if_eq (pc := 1510) O 1515 dL_law_1510 (by decide) hf (fun hf => ?_) (fun hf => ?_)
                                                        · refine E_widen (cs := cs + 1) (ss := ss + 6) (by first | exact Nat.le_refl _ | exact Nat.le_add_right _ _) (by first | exact Nat.le_refl _ | exact Nat.le_add_right _ _) ?_
                                                          exact t_b_L_law_1515 O Z hsc hout hcs hss _ hr23 p155.2 x1 x2 x3 x4 hf
                                                        · refine E_iconst (pc := 1513) O (0 : Int32) dL_law_1513 (by decide) ?_
                                                          exact absurd (os hf) (by rw [hout]; decide)
                                                      · refine E_tswOut (pc := 39) O 1515 dL_law_39 (by have z := tsw_out 0 26 (by decide) (lt_s (lt_s (lt_s (lt_s (lt_s (lt_s (lt_s (lt_s (lt_s (lt_s (lt_s (lt_s (lt_s (lt_s (lt_s (lt_s (lt_s (lt_s (lt_s (lt_s (lt_s (lt_s (lt_s (lt_s (lt_s (lt_s lt_0 n39_0) n39_1) n39_2) n39_3) n39_4) n39_5) n39_6) n39_7) n39_8) n39_9) n39_10) n39_11) n39_12) n39_13) n39_14) n39_15) n39_16) n39_17) n39_18) n39_19) n39_20) n39_21) n39_22) n39_23) n39_24) n39_25); omega) (by decide) ?_
                                                        refine E_widen (cs := cs + 1) (ss := ss + 6) (by first | exact Nat.le_refl _ | exact Nat.le_add_right _ _) (by first | exact Nat.le_refl _ | exact Nat.le_add_right _ _) ?_
                                                        exact t_b_L_law_1515 O Z hsc hout hcs hss _ hr23 h x1 x2 x3 x4 hf
theorem t_f_L_law_23 {K : Cx} {out : Int32} {sc : Nat × (Nat → Int32)} (O : Ok K "RailSequenceLaw" code 9 room_1) (Z : ∀ (cs ss : Nat) (pc : Nat) (L : List (Option Value)) (h : MH), cs ≤ 601024 → ss ≤ 7293034 → decode code pc = .ok (.ireturn, 1) → EE K (false, cs, ss) pc L [.int 1] h) (hsc : gro K.1 0 = sc) (hout : out = 1) : ∀ (n : Nat) {cs ss : Nat}, cs + n ≤ 601024 → ss + 6 * n ≤ 7293034 → ∀ (h : MH) (x1 : Nat) (x2 : Nat) (x3 : Nat) (x4 : Int32), f_L_law_23 sc n h x1 x2 x3 x4 = some out → EE K (false, cs, ss) 23 [some (.ref (RO + 0)), some (.ref x1), some (.ref x2), some (.ref x3), some (.int x4), none, none, none, none] [] h := by
  intro n
  induction n with
  | zero => intro cs ss _ _ h x1 x2 x3 x4 hf; cases hf
  | succ n ih => intro cs ss h1 h2 h x1 x2 x3 x4 hf; exact t_b_L_law_23 O Z hsc hout (by omega) (by omega) _ (ih (by omega) (by omega)) h x1 x2 x3 x4 hf
set_option maxHeartbeats 4000000 in
set_option maxRecDepth 100000 in
theorem t_L_law {K : Cx} {out : Int32} {sc : Nat × (Nat → Int32)} (O : Ok K "RailSequenceLaw" code 9 room_1) (Z : ∀ (cs ss : Nat) (pc : Nat) (L : List (Option Value)) (h : MH), cs ≤ 601024 → ss ≤ 7293034 → decode code pc = .ok (.ireturn, 1) → EE K (false, cs, ss) pc L [.int 1] h) (hsc : gro K.1 0 = sc) (hout : out = 1) (h : MH) (hf : f_L_law sc h = some out) : EE K (true, 0, 0) 0 [some (.ref (RO + 0)), none, none, none, none, none, none, none, none] [] h := by
  unfold f_L_law at hf
  refine E_new (pc := 0) O NW_RailSequenceLaw_8 dL_law_0 hf ⟨(Nat.le_of_ble_eq_true rfl), (Nat.le_of_ble_eq_true rfl)⟩ (fun h156 hf => ?_)
  show EE K (true, 1, 7) _ _ _ _
  refine E_dup (pc := 3) O dL_law_3 rfl ?_
  refine E_callI (pc := 4) O CI_RailSequenceLaw_80 rfl (aw1 18 (by decide +kernel) rfl) (fun r e => t_X3_init e) dL_law_4 hf ⟨(Nat.le_of_ble_eq_true rfl), (Nat.le_of_ble_eq_true rfl)⟩ ⟨(Nat.le_of_ble_eq_true rfl), (Nat.le_of_ble_eq_true rfl)⟩ (Nat.le_of_ble_eq_true rfl) (fun h157 hf => ?_)
  show EE K (true, 133, 2160) _ _ _ _
  obtain ⟨v158, ev158, hf⟩ := ob hf
  have ev158 := os ev158
  rw [ev158]
  refine E_astore_n (pc := 7) O 1 [some (.ref (RO + 0)), some (.ref v158), none, none, none, none, none, none, none] dL_law_7 rfl (by decide) rfl rfl ?_
  refine E_new (pc := 8) O NW_RailSequenceLaw_81 dL_law_8 hf ⟨(Nat.le_of_ble_eq_true rfl), (Nat.le_of_ble_eq_true rfl)⟩ (fun h159 hf => ?_)
  show EE K (true, 134, 2176) _ _ _ _
  refine E_dup (pc := 11) O dL_law_11 rfl ?_
  refine E_callI (pc := 12) O CI_RailSequenceLaw_83 rfl (aw3 227 (by decide +kernel) rfl) (fun r e => t_X4_init e) dL_law_12 hf ⟨(Nat.le_of_ble_eq_true rfl), (Nat.le_of_ble_eq_true rfl)⟩ ⟨(Nat.le_of_ble_eq_true rfl), (Nat.le_of_ble_eq_true rfl)⟩ (Nat.le_of_ble_eq_true rfl) (fun h160 hf => ?_)
  show EE K (true, 140, 4132) _ _ _ _
  obtain ⟨v161, ev161, hf⟩ := ob hf
  have ev161 := os ev161
  rw [ev161]
  refine E_astore_n (pc := 15) O 2 [some (.ref (RO + 0)), some (.ref v158), some (.ref v161), none, none, none, none, none, none] dL_law_15 rfl (by decide) rfl rfl ?_
  refine E_iconst (pc := 16) O (1 : Int32) dL_law_16 (by decide) ?_
  refine E_newaL (pc := 17) O (aw5 127 (by decide +kernel) rfl) dL_law_17 (by decide) (by decide) (Nat.le_of_ble_eq_true rfl) hf ⟨(Nat.le_of_ble_eq_true rfl), (Nat.le_of_ble_eq_true rfl)⟩ (fun h162 hf => ?_)
  show EE K (true, 141, 4133) _ _ _ _
  obtain ⟨v163, ev163, hf⟩ := ob hf
  have ev163 := os ev163
  rw [ev163]
  refine E_astore_n (pc := 19) O 3 [some (.ref (RO + 0)), some (.ref v158), some (.ref v161), some (.ref v163), none, none, none, none, none] dL_law_19 rfl (by decide) rfl rfl ?_
  refine E_iconst (pc := 20) O (0 : Int32) dL_law_20 (by decide) ?_
  refine E_istore (pc := 21) O [some (.ref (RO + 0)), some (.ref v158), some (.ref v161), some (.ref v163), some (.int (0 : Int32)), none, none, none, none] dL_law_21 (by decide) rfl rfl ?_
  refine E_frw ?_
  exact t_f_L_law_23 O Z hsc hout FU (Nat.le_of_ble_eq_true rfl) (Nat.le_of_ble_eq_true rfl) h162 v158 v161 v163 (0 : Int32) hf
