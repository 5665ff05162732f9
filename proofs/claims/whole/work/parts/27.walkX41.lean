/-! walks: the machine does what the plain functions say: written by program -/
set_option maxHeartbeats 4000000 in
set_option maxRecDepth 100000 in
theorem t_b_X4_lookWaiting_84 {K : Cx} {fr : Bool} {out : MH} (O : Ok K yX4_lookWaiting.cls cX4_lookWaiting 2 (rmm 3 67 0 0)) (Z : Out K none fr none out) (h : MH) (hf : b_X4_lookWaiting_84 h = some out) : EE K (fr, 0, 0) 84 [none, none] [] h := by
  unfold b_X4_lookWaiting_84 at hf
  exact E_vret (pc := 84) O Z hf ⟨(Nat.le_of_ble_eq_true rfl), (Nat.le_of_ble_eq_true rfl)⟩ dX4_lookWaiting_84
set_option maxHeartbeats 4000000 in
set_option maxRecDepth 100000 in
theorem t_b_X4_lookWaiting_76 {K : Cx} {fr : Bool} {out : MH} (O : Ok K yX4_lookWaiting.cls cX4_lookWaiting 2 (rmm 3 67 0 0)) (Z : Out K none fr none out) (h : MH) (x0 : Nat) (x1 : Int32) (hf : b_X4_lookWaiting_76 h x0 x1 = some out) : EE K (fr, 0, 0) 76 [some (.ref x0), some (.int x1)] [] h := by
  unfold b_X4_lookWaiting_76 at hf
  refine E_aload_n (pc := 76) O 0 dX4_lookWaiting_76 rfl rfl ?_
  refine E_iload_n (pc := 77) O 1 dX4_lookWaiting_77 rfl rfl ?_
  refine E_bipush (pc := 78) O (13 : Int32) dX4_lookWaiting_78 (by decide) ?_
  refine E_iconst (pc := 80) O (0 : Int32) dX4_lookWaiting_80 (by decide) ?_
  refine E_callV_v (pc := 81) (S := []) O [.int x1, .int (13 : Int32), .int (0 : Int32)] CV_RailSequenceModel_40 rfl (fun r e => t_X4_lay e) dX4_lookWaiting_81 hf rfl ⟨(Nat.le_of_ble_eq_true rfl), (Nat.le_of_ble_eq_true rfl)⟩ ⟨(Nat.le_of_ble_eq_true rfl), (Nat.le_of_ble_eq_true rfl)⟩ (Nat.le_of_ble_eq_true rfl) (fun h1 hf => ?_)
  exact E_sub (L' := [none, none]) True.intro (t_b_X4_lookWaiting_84 O Z h1 hf)
set_option maxHeartbeats 4000000 in
set_option maxRecDepth 100000 in
theorem t_X4_lookWaiting {g : Gx} {fr : Bool} {h : MH} {x0 x1} {out : MH} (hf : f_X4_lookWaiting h x0 x1 = some out) : MM g yX4_lookWaiting cX4_lookWaiting 2 none 3 67 0 0 fr fr [.ref x0, .int x1] h none out := by
  unfold f_X4_lookWaiting at hf
  refine MM_of (L := [some (.ref x0), some (.int x1)]) (by decide) (Nat.le_of_ble_eq_true rfl) rfl (fun K hK O Z hn => ?_)
  refine E_aload_n (pc := 0) O 0 dX4_lookWaiting_0 rfl rfl ?_
  refine E_iload_n (pc := 1) O 1 dX4_lookWaiting_1 rfl rfl ?_
  refine E_bipush (pc := 2) O (8 : Int32) dX4_lookWaiting_2 (by decide) ?_
  refine E_callV_iP (pc := 4) (S := []) O [.int x1, .int (8 : Int32)] CV_RailSequenceModel_36 rfl (fun r e => t_X4_of e) dX4_lookWaiting_4 hf rfl ⟨(Nat.le_of_ble_eq_true rfl), (Nat.le_of_ble_eq_true rfl)⟩ ⟨(Nat.le_of_ble_eq_true rfl), (Nat.le_of_ble_eq_true rfl)⟩ (Nat.le_of_ble_eq_true rfl) (fun v2 hf => ?_)
  refine E_if_ne (pc := 7) O 19 dX4_lookWaiting_7 (by decide) hf (fun hf => ?_) (fun hf => ?_)
  · refine E_aload_n (pc := 19) O 0 dX4_lookWaiting_19 rfl rfl ?_
    refine E_iload_n (pc := 20) O 1 dX4_lookWaiting_20 rfl rfl ?_
    refine E_callV_iP (pc := 21) (S := []) O [.int x1] CV_RailSequenceModel_69 rfl (fun r e => t_X4_isDischarged e) dX4_lookWaiting_21 hf rfl ⟨(Nat.le_of_ble_eq_true rfl), (Nat.le_of_ble_eq_true rfl)⟩ ⟨(Nat.le_of_ble_eq_true rfl), (Nat.le_of_ble_eq_true rfl)⟩ (Nat.le_of_ble_eq_true rfl) (fun v3 hf => ?_)
    refine E_if_eq (pc := 24) O 76 dX4_lookWaiting_24 (by decide) hf (fun hf => ?_) (fun hf => ?_)
    · exact t_b_X4_lookWaiting_76 O Z h x0 x1 hf
    · refine E_aload_n (pc := 27) O 0 dX4_lookWaiting_27 rfl rfl ?_
      refine E_iload_n (pc := 28) O 1 dX4_lookWaiting_28 rfl rfl ?_
      refine E_callV_iP (pc := 29) (S := []) O [.int x1] CV_RailSequenceModel_75 rfl (fun r e => t_X4_missing e) dX4_lookWaiting_29 hf rfl ⟨(Nat.le_of_ble_eq_true rfl), (Nat.le_of_ble_eq_true rfl)⟩ ⟨(Nat.le_of_ble_eq_true rfl), (Nat.le_of_ble_eq_true rfl)⟩ (Nat.le_of_ble_eq_true rfl) (fun v4 hf => ?_)
      refine E_iconst (pc := 32) O (-1 : Int32) dX4_lookWaiting_32 (by decide) ?_
      refine E_icmp_ne (pc := 33) O 76 dX4_lookWaiting_33 (by decide) hf (fun hf => ?_) (fun hf => ?_)
      · exact t_b_X4_lookWaiting_76 O Z h x0 x1 hf
      · refine E_aload_n (pc := 36) O 0 dX4_lookWaiting_36 rfl rfl ?_
        refine E_iload_n (pc := 37) O 1 dX4_lookWaiting_37 rfl rfl ?_
        refine E_bipush (pc := 38) O (13 : Int32) dX4_lookWaiting_38 (by decide) ?_
        refine E_callV_v (pc := 40) (S := []) O [.int x1, .int (13 : Int32)] CV_RailSequenceModel_50 rfl (fun r e => t_X4_add e) dX4_lookWaiting_40 hf rfl ⟨(Nat.le_of_ble_eq_true rfl), (Nat.le_of_ble_eq_true rfl)⟩ ⟨(Nat.le_of_ble_eq_true rfl), (Nat.le_of_ble_eq_true rfl)⟩ (Nat.le_of_ble_eq_true rfl) (fun h5 hf => ?_)
        refine E_aload_n (pc := 43) O 0 dX4_lookWaiting_43 rfl rfl ?_
        refine E_iload_n (pc := 44) O 1 dX4_lookWaiting_44 rfl rfl ?_
        refine E_bipush (pc := 45) O (13 : Int32) dX4_lookWaiting_45 (by decide) ?_
        refine E_callV_iP (pc := 47) (S := []) O [.int x1, .int (13 : Int32)] CV_RailSequenceModel_36 rfl (fun r e => t_X4_of e) dX4_lookWaiting_47 hf rfl ⟨(Nat.le_of_ble_eq_true rfl), (Nat.le_of_ble_eq_true rfl)⟩ ⟨(Nat.le_of_ble_eq_true rfl), (Nat.le_of_ble_eq_true rfl)⟩ (Nat.le_of_ble_eq_true rfl) (fun v6 hf => ?_)
        refine E_aload_n (pc := 50) O 0 dX4_lookWaiting_50 rfl rfl ?_
        refine E_iload_n (pc := 51) O 1 dX4_lookWaiting_51 rfl rfl ?_
        refine E_iconst (pc := 52) O (4 : Int32) dX4_lookWaiting_52 (by decide) ?_
        refine E_callV_iP (pc := 53) (S := [.int v6]) O [.int x1, .int (4 : Int32)] CV_RailSequenceModel_36 rfl (fun r e => t_X4_of e) dX4_lookWaiting_53 hf rfl ⟨(Nat.le_of_ble_eq_true rfl), (Nat.le_of_ble_eq_true rfl)⟩ ⟨(Nat.le_of_ble_eq_true rfl), (Nat.le_of_ble_eq_true rfl)⟩ (Nat.le_of_ble_eq_true rfl) (fun v7 hf => ?_)
        refine E_icmp_le (pc := 56) O 84 dX4_lookWaiting_56 (by decide) hf (fun hf => ?_) (fun hf => ?_)
        · exact E_sub (L' := [none, none]) True.intro (t_b_X4_lookWaiting_84 O Z h5 hf)
        · refine E_aload_n (pc := 59) O 0 dX4_lookWaiting_59 rfl rfl ?_
          refine E_iload_n (pc := 60) O 1 dX4_lookWaiting_60 rfl rfl ?_
          refine E_bipush (pc := 61) O (13 : Int32) dX4_lookWaiting_61 (by decide) ?_
          refine E_iconst (pc := 63) O (0 : Int32) dX4_lookWaiting_63 (by decide) ?_
          refine E_callV_v (pc := 64) (S := []) O [.int x1, .int (13 : Int32), .int (0 : Int32)] CV_RailSequenceModel_40 rfl (fun r e => t_X4_lay e) dX4_lookWaiting_64 hf rfl ⟨(Nat.le_of_ble_eq_true rfl), (Nat.le_of_ble_eq_true rfl)⟩ ⟨(Nat.le_of_ble_eq_true rfl), (Nat.le_of_ble_eq_true rfl)⟩ (Nat.le_of_ble_eq_true rfl) (fun h8 hf => ?_)
          refine E_aload_n (pc := 67) O 0 dX4_lookWaiting_67 rfl rfl ?_
          refine E_iload_n (pc := 68) O 1 dX4_lookWaiting_68 rfl rfl ?_
          refine E_iconst (pc := 69) O (2 : Int32) dX4_lookWaiting_69 (by decide) ?_
          refine E_callV_v (pc := 70) (S := []) O [.int x1, .int (2 : Int32)] CV_RailSequenceModel_54 rfl (fun r e => t_X4_become e) dX4_lookWaiting_70 hf rfl ⟨(Nat.le_of_ble_eq_true rfl), (Nat.le_of_ble_eq_true rfl)⟩ ⟨(Nat.le_of_ble_eq_true rfl), (Nat.le_of_ble_eq_true rfl)⟩ (Nat.le_of_ble_eq_true rfl) (fun h9 hf => ?_)
          refine E_goto (pc := 73) O 84 dX4_lookWaiting_73 (by decide) ?_
          exact E_sub (L' := [none, none]) True.intro (t_b_X4_lookWaiting_84 O Z h9 hf)
  · refine E_aload_n (pc := 10) O 0 dX4_lookWaiting_10 rfl rfl ?_
    refine E_iload_n (pc := 11) O 1 dX4_lookWaiting_11 rfl rfl ?_
    refine E_iconst (pc := 12) O (0 : Int32) dX4_lookWaiting_12 (by decide) ?_
    refine E_callV_v (pc := 13) (S := []) O [.int x1, .int (0 : Int32)] CV_RailSequenceModel_54 rfl (fun r e => t_X4_become e) dX4_lookWaiting_13 hf rfl ⟨(Nat.le_of_ble_eq_true rfl), (Nat.le_of_ble_eq_true rfl)⟩ ⟨(Nat.le_of_ble_eq_true rfl), (Nat.le_of_ble_eq_true rfl)⟩ (Nat.le_of_ble_eq_true rfl) (fun h10 hf => ?_)
    refine E_goto (pc := 16) O 84 dX4_lookWaiting_16 (by decide) ?_
    exact E_sub (L' := [none, none]) True.intro (t_b_X4_lookWaiting_84 O Z h10 hf)
set_option maxHeartbeats 4000000 in
set_option maxRecDepth 100000 in
theorem t_b_X4_lookRising_87 {K : Cx} {fr : Bool} {out : MH} (O : Ok K yX4_lookRising.cls cX4_lookRising 3 (rmm 4 90 0 0)) (Z : Out K none fr none out) (h : MH) (hf : b_X4_lookRising_87 h = some out) : EE K (fr, 0, 0) 87 [none, none, none] [] h := by
  unfold b_X4_lookRising_87 at hf
  exact E_vret (pc := 87) O Z hf ⟨(Nat.le_of_ble_eq_true rfl), (Nat.le_of_ble_eq_true rfl)⟩ dX4_lookRising_87
set_option maxHeartbeats 4000000 in
set_option maxRecDepth 100000 in
theorem t_X4_lookRising {g : Gx} {fr : Bool} {h : MH} {x0 x1} {out : MH} (hf : f_X4_lookRising h x0 x1 = some out) : MM g yX4_lookRising cX4_lookRising 3 none 4 90 0 0 fr fr [.ref x0, .int x1] h none out := by
  unfold f_X4_lookRising at hf
  refine MM_of (L := [some (.ref x0), some (.int x1), none]) (by decide) (Nat.le_of_ble_eq_true rfl) rfl (fun K hK O Z hn => ?_)
  refine E_aload_n (pc := 0) O 0 dX4_lookRising_0 rfl rfl ?_
  refine E_iload_n (pc := 1) O 1 dX4_lookRising_1 rfl rfl ?_
  refine E_callV_iP (pc := 2) (S := []) O [.int x1] CV_RailSequenceModel_75 rfl (fun r e => t_X4_missing e) dX4_lookRising_2 hf rfl ⟨(Nat.le_of_ble_eq_true rfl), (Nat.le_of_ble_eq_true rfl)⟩ ⟨(Nat.le_of_ble_eq_true rfl), (Nat.le_of_ble_eq_true rfl)⟩ (Nat.le_of_ble_eq_true rfl) (fun v1 hf => ?_)
  refine E_istore_n (pc := 5) O 2 [some (.ref x0), some (.int x1), some (.int v1)] dX4_lookRising_5 rfl (by decide) rfl rfl ?_
  refine E_aload_n (pc := 6) O 0 dX4_lookRising_6 rfl rfl ?_
  refine E_iload_n (pc := 7) O 1 dX4_lookRising_7 rfl rfl ?_
  refine E_bipush (pc := 8) O (8 : Int32) dX4_lookRising_8 (by decide) ?_
  refine E_callV_iP (pc := 10) (S := []) O [.int x1, .int (8 : Int32)] CV_RailSequenceModel_36 rfl (fun r e => t_X4_of e) dX4_lookRising_10 hf rfl ⟨(Nat.le_of_ble_eq_true rfl), (Nat.le_of_ble_eq_true rfl)⟩ ⟨(Nat.le_of_ble_eq_true rfl), (Nat.le_of_ble_eq_true rfl)⟩ (Nat.le_of_ble_eq_true rfl) (fun v2 hf => ?_)
  refine E_if_ne (pc := 13) O 26 dX4_lookRising_13 (by decide) hf (fun hf => ?_) (fun hf => ?_)
  · refine E_iload_n (pc := 26) O 2 dX4_lookRising_26 rfl rfl ?_
    refine E_iconst (pc := 27) O (-1 : Int32) dX4_lookRising_27 (by decide) ?_
    refine E_icmp_eq (pc := 28) O 41 dX4_lookRising_28 (by decide) hf (fun hf => ?_) (fun hf => ?_)
    · refine E_aload_n (pc := 41) O 0 dX4_lookRising_41 rfl rfl ?_
      refine E_iload_n (pc := 42) O 1 dX4_lookRising_42 rfl rfl ?_
      refine E_callV_iP (pc := 43) (S := []) O [.int x1] CV_RailSequenceModel_65 rfl (fun r e => t_X4_isFlag e) dX4_lookRising_43 hf rfl ⟨(Nat.le_of_ble_eq_true rfl), (Nat.le_of_ble_eq_true rfl)⟩ ⟨(Nat.le_of_ble_eq_true rfl), (Nat.le_of_ble_eq_true rfl)⟩ (Nat.le_of_ble_eq_true rfl) (fun v3 hf => ?_)
      refine E_if_eq (pc := 46) O 59 dX4_lookRising_46 (by decide) hf (fun hf => ?_) (fun hf => ?_)
      · refine E_aload_n (pc := 59) O 0 dX4_lookRising_59 rfl rfl ?_
        refine E_iload_n (pc := 60) O 1 dX4_lookRising_60 rfl rfl ?_
        refine E_bipush (pc := 61) O (13 : Int32) dX4_lookRising_61 (by decide) ?_
        refine E_callV_v (pc := 63) (S := []) O [.int x1, .int (13 : Int32)] CV_RailSequenceModel_50 rfl (fun r e => t_X4_add e) dX4_lookRising_63 hf rfl ⟨(Nat.le_of_ble_eq_true rfl), (Nat.le_of_ble_eq_true rfl)⟩ ⟨(Nat.le_of_ble_eq_true rfl), (Nat.le_of_ble_eq_true rfl)⟩ (Nat.le_of_ble_eq_true rfl) (fun h4 hf => ?_)
        refine E_aload_n (pc := 66) O 0 dX4_lookRising_66 rfl rfl ?_
        refine E_iload_n (pc := 67) O 1 dX4_lookRising_67 rfl rfl ?_
        refine E_bipush (pc := 68) O (13 : Int32) dX4_lookRising_68 (by decide) ?_
        refine E_callV_iP (pc := 70) (S := []) O [.int x1, .int (13 : Int32)] CV_RailSequenceModel_36 rfl (fun r e => t_X4_of e) dX4_lookRising_70 hf rfl ⟨(Nat.le_of_ble_eq_true rfl), (Nat.le_of_ble_eq_true rfl)⟩ ⟨(Nat.le_of_ble_eq_true rfl), (Nat.le_of_ble_eq_true rfl)⟩ (Nat.le_of_ble_eq_true rfl) (fun v5 hf => ?_)
        refine E_aload_n (pc := 73) O 0 dX4_lookRising_73 rfl rfl ?_
        refine E_iload_n (pc := 74) O 1 dX4_lookRising_74 rfl rfl ?_
        refine E_iconst (pc := 75) O (5 : Int32) dX4_lookRising_75 (by decide) ?_
        refine E_callV_iP (pc := 76) (S := [.int v5]) O [.int x1, .int (5 : Int32)] CV_RailSequenceModel_36 rfl (fun r e => t_X4_of e) dX4_lookRising_76 hf rfl ⟨(Nat.le_of_ble_eq_true rfl), (Nat.le_of_ble_eq_true rfl)⟩ ⟨(Nat.le_of_ble_eq_true rfl), (Nat.le_of_ble_eq_true rfl)⟩ (Nat.le_of_ble_eq_true rfl) (fun v6 hf => ?_)
        refine E_icmp_lt (pc := 79) O 87 dX4_lookRising_79 (by decide) hf (fun hf => ?_) (fun hf => ?_)
        · exact E_sub (L' := [none, none, none]) True.intro (t_b_X4_lookRising_87 O Z h4 hf)
        · refine E_aload_n (pc := 82) O 0 dX4_lookRising_82 rfl rfl ?_
          refine E_iload_n (pc := 83) O 1 dX4_lookRising_83 rfl rfl ?_
          refine E_callV_v (pc := 84) (S := []) O [.int x1] CV_RailSequenceModel_79 rfl (fun r e => t_X4_fail e) dX4_lookRising_84 hf rfl ⟨(Nat.le_of_ble_eq_true rfl), (Nat.le_of_ble_eq_true rfl)⟩ ⟨(Nat.le_of_ble_eq_true rfl), (Nat.le_of_ble_eq_true rfl)⟩ (Nat.le_of_ble_eq_true rfl) (fun h7 hf => ?_)
          exact E_sub (L' := [none, none, none]) True.intro (t_b_X4_lookRising_87 O Z h7 hf)
      · refine E_aload_n (pc := 49) O 0 dX4_lookRising_49 rfl rfl ?_
        refine E_iload_n (pc := 50) O 1 dX4_lookRising_50 rfl rfl ?_
        refine E_iconst (pc := 51) O (3 : Int32) dX4_lookRising_51 (by decide) ?_
        refine E_iconst (pc := 52) O (-1 : Int32) dX4_lookRising_52 (by decide) ?_
        refine E_callV_v (pc := 53) (S := []) O [.int x1, .int (3 : Int32), .int (-1 : Int32)] CV_RailSequenceModel_72 rfl (fun r e => t_X4_becomeFor e) dX4_lookRising_53 hf rfl ⟨(Nat.le_of_ble_eq_true rfl), (Nat.le_of_ble_eq_true rfl)⟩ ⟨(Nat.le_of_ble_eq_true rfl), (Nat.le_of_ble_eq_true rfl)⟩ (Nat.le_of_ble_eq_true rfl) (fun h8 hf => ?_)
        refine E_goto (pc := 56) O 87 dX4_lookRising_56 (by decide) ?_
        exact E_sub (L' := [none, none, none]) True.intro (t_b_X4_lookRising_87 O Z h8 hf)
    · refine E_aload_n (pc := 31) O 0 dX4_lookRising_31 rfl rfl ?_
      refine E_iload_n (pc := 32) O 1 dX4_lookRising_32 rfl rfl ?_
      refine E_iconst (pc := 33) O (4 : Int32) dX4_lookRising_33 (by decide) ?_
      refine E_iload_n (pc := 34) O 2 dX4_lookRising_34 rfl rfl ?_
      refine E_callV_v (pc := 35) (S := []) O [.int x1, .int (4 : Int32), .int v1] CV_RailSequenceModel_72 rfl (fun r e => t_X4_becomeFor e) dX4_lookRising_35 hf rfl ⟨(Nat.le_of_ble_eq_true rfl), (Nat.le_of_ble_eq_true rfl)⟩ ⟨(Nat.le_of_ble_eq_true rfl), (Nat.le_of_ble_eq_true rfl)⟩ (Nat.le_of_ble_eq_true rfl) (fun h9 hf => ?_)
      refine E_goto (pc := 38) O 87 dX4_lookRising_38 (by decide) ?_
      exact E_sub (L' := [none, none, none]) True.intro (t_b_X4_lookRising_87 O Z h9 hf)
  · refine E_aload_n (pc := 16) O 0 dX4_lookRising_16 rfl rfl ?_
    refine E_iload_n (pc := 17) O 1 dX4_lookRising_17 rfl rfl ?_
    refine E_iconst (pc := 18) O (4 : Int32) dX4_lookRising_18 (by decide) ?_
    refine E_iconst (pc := 19) O (-1 : Int32) dX4_lookRising_19 (by decide) ?_
    refine E_callV_v (pc := 20) (S := []) O [.int x1, .int (4 : Int32), .int (-1 : Int32)] CV_RailSequenceModel_72 rfl (fun r e => t_X4_becomeFor e) dX4_lookRising_20 hf rfl ⟨(Nat.le_of_ble_eq_true rfl), (Nat.le_of_ble_eq_true rfl)⟩ ⟨(Nat.le_of_ble_eq_true rfl), (Nat.le_of_ble_eq_true rfl)⟩ (Nat.le_of_ble_eq_true rfl) (fun h10 hf => ?_)
    refine E_goto (pc := 23) O 87 dX4_lookRising_23 (by decide) ?_
    exact E_sub (L' := [none, none, none]) True.intro (t_b_X4_lookRising_87 O Z h10 hf)
set_option maxHeartbeats 4000000 in
set_option maxRecDepth 100000 in
theorem t_b_X4_lookGood_62 {K : Cx} {fr : Bool} {out : MH} (O : Ok K yX4_lookGood.cls cX4_lookGood 3 (rmm 4 90 0 0)) (Z : Out K none fr none out) (h : MH) (hf : b_X4_lookGood_62 h = some out) : EE K (fr, 0, 0) 62 [none, none, none] [] h := by
  unfold b_X4_lookGood_62 at hf
  exact E_vret (pc := 62) O Z hf ⟨(Nat.le_of_ble_eq_true rfl), (Nat.le_of_ble_eq_true rfl)⟩ dX4_lookGood_62
set_option maxHeartbeats 4000000 in
set_option maxRecDepth 100000 in
theorem t_X4_lookGood {g : Gx} {fr : Bool} {h : MH} {x0 x1} {out : MH} (hf : f_X4_lookGood h x0 x1 = some out) : MM g yX4_lookGood cX4_lookGood 3 none 4 90 0 0 fr fr [.ref x0, .int x1] h none out := by
  unfold f_X4_lookGood at hf
  refine MM_of (L := [some (.ref x0), some (.int x1), none]) (by decide) (Nat.le_of_ble_eq_true rfl) rfl (fun K hK O Z hn => ?_)
  refine E_aload_n (pc := 0) O 0 dX4_lookGood_0 rfl rfl ?_
  refine E_iload_n (pc := 1) O 1 dX4_lookGood_1 rfl rfl ?_
  refine E_callV_iP (pc := 2) (S := []) O [.int x1] CV_RailSequenceModel_75 rfl (fun r e => t_X4_missing e) dX4_lookGood_2 hf rfl ⟨(Nat.le_of_ble_eq_true rfl), (Nat.le_of_ble_eq_true rfl)⟩ ⟨(Nat.le_of_ble_eq_true rfl), (Nat.le_of_ble_eq_true rfl)⟩ (Nat.le_of_ble_eq_true rfl) (fun v1 hf => ?_)
  refine E_istore_n (pc := 5) O 2 [some (.ref x0), some (.int x1), some (.int v1)] dX4_lookGood_5 rfl (by decide) rfl rfl ?_
  refine E_iload_n (pc := 6) O 2 dX4_lookGood_6 rfl rfl ?_
  refine E_iconst (pc := 7) O (-1 : Int32) dX4_lookGood_7 (by decide) ?_
  refine E_icmp_eq (pc := 8) O 21 dX4_lookGood_8 (by decide) hf (fun hf => ?_) (fun hf => ?_)
  · refine E_aload_n (pc := 21) O 0 dX4_lookGood_21 rfl rfl ?_
    refine E_iload_n (pc := 22) O 1 dX4_lookGood_22 rfl rfl ?_
    refine E_callV_iP (pc := 23) (S := []) O [.int x1] CV_RailSequenceModel_65 rfl (fun r e => t_X4_isFlag e) dX4_lookGood_23 hf rfl ⟨(Nat.le_of_ble_eq_true rfl), (Nat.le_of_ble_eq_true rfl)⟩ ⟨(Nat.le_of_ble_eq_true rfl), (Nat.le_of_ble_eq_true rfl)⟩ (Nat.le_of_ble_eq_true rfl) (fun v2 hf => ?_)
    refine E_if_ne (pc := 26) O 37 dX4_lookGood_26 (by decide) hf (fun hf => ?_) (fun hf => ?_)
    · refine E_aload_n (pc := 37) O 0 dX4_lookGood_37 rfl rfl ?_
      refine E_iload_n (pc := 38) O 1 dX4_lookGood_38 rfl rfl ?_
      refine E_bipush (pc := 39) O (8 : Int32) dX4_lookGood_39 (by decide) ?_
      refine E_callV_iP (pc := 41) (S := []) O [.int x1, .int (8 : Int32)] CV_RailSequenceModel_36 rfl (fun r e => t_X4_of e) dX4_lookGood_41 hf rfl ⟨(Nat.le_of_ble_eq_true rfl), (Nat.le_of_ble_eq_true rfl)⟩ ⟨(Nat.le_of_ble_eq_true rfl), (Nat.le_of_ble_eq_true rfl)⟩ (Nat.le_of_ble_eq_true rfl) (fun v3 hf => ?_)
      refine E_if_ne (pc := 44) O 62 dX4_lookGood_44 (by decide) hf (fun hf => ?_) (fun hf => ?_)
      · exact E_sub (L' := [none, none, none]) True.intro (t_b_X4_lookGood_62 O Z h hf)
      · refine E_aload_n (pc := 47) O 0 dX4_lookGood_47 rfl rfl ?_
        refine E_iload_n (pc := 48) O 1 dX4_lookGood_48 rfl rfl ?_
        refine E_callV_iP (pc := 49) (S := []) O [.int x1] CV_RailSequenceModel_83 rfl (fun r e => t_X4_isUsed e) dX4_lookGood_49 hf rfl ⟨(Nat.le_of_ble_eq_true rfl), (Nat.le_of_ble_eq_true rfl)⟩ ⟨(Nat.le_of_ble_eq_true rfl), (Nat.le_of_ble_eq_true rfl)⟩ (Nat.le_of_ble_eq_true rfl) (fun v4 hf => ?_)
        refine E_if_ne (pc := 52) O 62 dX4_lookGood_52 (by decide) hf (fun hf => ?_) (fun hf => ?_)
        · exact E_sub (L' := [none, none, none]) True.intro (t_b_X4_lookGood_62 O Z h hf)
        · refine E_aload_n (pc := 55) O 0 dX4_lookGood_55 rfl rfl ?_
          refine E_iload_n (pc := 56) O 1 dX4_lookGood_56 rfl rfl ?_
          refine E_iconst (pc := 57) O (4 : Int32) dX4_lookGood_57 (by decide) ?_
          refine E_iconst (pc := 58) O (-1 : Int32) dX4_lookGood_58 (by decide) ?_
          refine E_callV_v (pc := 59) (S := []) O [.int x1, .int (4 : Int32), .int (-1 : Int32)] CV_RailSequenceModel_72 rfl (fun r e => t_X4_becomeFor e) dX4_lookGood_59 hf rfl ⟨(Nat.le_of_ble_eq_true rfl), (Nat.le_of_ble_eq_true rfl)⟩ ⟨(Nat.le_of_ble_eq_true rfl), (Nat.le_of_ble_eq_true rfl)⟩ (Nat.le_of_ble_eq_true rfl) (fun h5 hf => ?_)
          exact E_sub (L' := [none, none, none]) True.intro (t_b_X4_lookGood_62 O Z h5 hf)
    · refine E_aload_n (pc := 29) O 0 dX4_lookGood_29 rfl rfl ?_
      refine E_iload_n (pc := 30) O 1 dX4_lookGood_30 rfl rfl ?_
      refine E_callV_v (pc := 31) (S := []) O [.int x1] CV_RailSequenceModel_79 rfl (fun r e => t_X4_fail e) dX4_lookGood_31 hf rfl ⟨(Nat.le_of_ble_eq_true rfl), (Nat.le_of_ble_eq_true rfl)⟩ ⟨(Nat.le_of_ble_eq_true rfl), (Nat.le_of_ble_eq_true rfl)⟩ (Nat.le_of_ble_eq_true rfl) (fun h6 hf => ?_)
      refine E_goto (pc := 34) O 62 dX4_lookGood_34 (by decide) ?_
      exact E_sub (L' := [none, none, none]) True.intro (t_b_X4_lookGood_62 O Z h6 hf)
  · refine E_aload_n (pc := 11) O 0 dX4_lookGood_11 rfl rfl ?_
    refine E_iload_n (pc := 12) O 1 dX4_lookGood_12 rfl rfl ?_
    refine E_iconst (pc := 13) O (4 : Int32) dX4_lookGood_13 (by decide) ?_
    refine E_iload_n (pc := 14) O 2 dX4_lookGood_14 rfl rfl ?_
    refine E_callV_v (pc := 15) (S := []) O [.int x1, .int (4 : Int32), .int v1] CV_RailSequenceModel_72 rfl (fun r e => t_X4_becomeFor e) dX4_lookGood_15 hf rfl ⟨(Nat.le_of_ble_eq_true rfl), (Nat.le_of_ble_eq_true rfl)⟩ ⟨(Nat.le_of_ble_eq_true rfl), (Nat.le_of_ble_eq_true rfl)⟩ (Nat.le_of_ble_eq_true rfl) (fun h7 hf => ?_)
    refine E_goto (pc := 18) O 62 dX4_lookGood_18 (by decide) ?_
    exact E_sub (L' := [none, none, none]) True.intro (t_b_X4_lookGood_62 O Z h7 hf)
set_option maxHeartbeats 4000000 in
set_option maxRecDepth 100000 in
theorem t_b_X4_look_174 {K : Cx} {fr : Bool} {out : MH} (O : Ok K yX4_look.cls cX4_look 3 (rmm 5 112 0 0)) (Z : Out K none fr none out) (h : MH) (hf : b_X4_look_174 h = some out) : EE K (fr, 0, 0) 174 [none, none, none] [] h := by
  unfold b_X4_look_174 at hf
  exact E_vret (pc := 174) O Z hf ⟨(Nat.le_of_ble_eq_true rfl), (Nat.le_of_ble_eq_true rfl)⟩ dX4_look_174
set_option maxHeartbeats 4000000 in
set_option maxRecDepth 100000 in
theorem t_b_X4_look_150 {K : Cx} {fr : Bool} {out : MH} (O : Ok K yX4_look.cls cX4_look 3 (rmm 5 112 0 0)) (Z : Out K none fr none out) (h : MH) (s0 : Nat) (s1 : Int32) (s2 : Int32) (hf : b_X4_look_150 h s0 s1 s2 = some out) : EE K (fr, 0, 0) 150 [none, none, none] [.int s2, .int s1, .ref s0] h := by
  unfold b_X4_look_150 at hf
  refine E_callV_v (pc := 150) (S := []) O [.int s1, .int s2] CV_RailSequenceModel_54 rfl (fun r e => t_X4_become e) dX4_look_150 hf rfl ⟨(Nat.le_of_ble_eq_true rfl), (Nat.le_of_ble_eq_true rfl)⟩ ⟨(Nat.le_of_ble_eq_true rfl), (Nat.le_of_ble_eq_true rfl)⟩ (Nat.le_of_ble_eq_true rfl) (fun h1 hf => ?_)
  refine E_goto (pc := 153) O 174 dX4_look_153 (by decide) ?_
  exact t_b_X4_look_174 O Z h1 hf
set_option maxHeartbeats 4000000 in
set_option maxRecDepth 100000 in
theorem t_b_X4_look_136 {K : Cx} {fr : Bool} {out : MH} (O : Ok K yX4_look.cls cX4_look 3 (rmm 5 112 0 0)) (Z : Out K none fr none out) (h : MH) (x0 : Nat) (x1 : Int32) (x2 : Int32) (s0 : Nat) (s1 : Int32) (s2 : Int32) (s3 : Int32) (hf : b_X4_look_136 h x0 x1 x2 s0 s1 s2 s3 = some out) : EE K (fr, 0, 0) 136 [some (.ref x0), some (.int x1), some (.int x2)] [.int s3, .int s2, .int s1, .ref s0] h := by
  unfold b_X4_look_136 at hf
  refine E_callV_v (pc := 136) (S := []) O [.int s1, .int s2, .int s3] CV_RailSequenceModel_40 rfl (fun r e => t_X4_lay e) dX4_look_136 hf rfl ⟨(Nat.le_of_ble_eq_true rfl), (Nat.le_of_ble_eq_true rfl)⟩ ⟨(Nat.le_of_ble_eq_true rfl), (Nat.le_of_ble_eq_true rfl)⟩ (Nat.le_of_ble_eq_true rfl) (fun h2 hf => ?_)
  refine E_aload_n (pc := 139) O 0 dX4_look_139 rfl rfl ?_
  refine E_iload_n (pc := 140) O 1 dX4_look_140 rfl rfl ?_
  refine E_iload_n (pc := 141) O 2 dX4_look_141 rfl rfl ?_
  refine E_if_eq (pc := 142) O 149 dX4_look_142 (by decide) hf (fun hf => ?_) (fun hf => ?_)
  · refine E_iconst (pc := 149) O (0 : Int32) dX4_look_149 (by decide) ?_
    exact E_sub (L' := [none, none, none]) True.intro (t_b_X4_look_150 O Z h2 x0 x1 (0 : Int32) hf)
  · refine E_iconst (pc := 145) O (1 : Int32) dX4_look_145 (by decide) ?_
    refine E_goto (pc := 146) O 150 dX4_look_146 (by decide) ?_
    exact E_sub (L' := [none, none, none]) True.intro (t_b_X4_look_150 O Z h2 x0 x1 (1 : Int32) hf)
set_option maxHeartbeats 4000000 in
set_option maxRecDepth 100000 in
theorem t_b_X4_look_16 {K : Cx} {fr : Bool} {out : MH} (O : Ok K yX4_look.cls cX4_look 3 (rmm 5 112 0 0)) (Z : Out K none fr none out) (h : MH) (x0 : Nat) (x1 : Int32) (s0 : Int32) (hf : b_X4_look_16 h x0 x1 s0 = some out) : EE K (fr, 0, 0) 16 [some (.ref x0), some (.int x1), none] [.int s0] h := by
  unfold b_X4_look_16 at hf
  refine E_istore_n (pc := 16) O 2 [some (.ref x0), some (.int x1), some (.int s0)] dX4_look_16 rfl (by decide) rfl rfl ?_
  refine E_aload_n (pc := 17) O 0 dX4_look_17 rfl rfl ?_
  refine E_getR (pc := 18) O FL_RailSequenceModel_19 dX4_look_18 hf (fun v3 hf => ?_)
  refine E_iload_n (pc := 21) O 1 dX4_look_21 rfl rfl ?_
  refine E_iaload (pc := 22) O dX4_look_22 hf (fun v4 hf => ?_)
  refine E_ite hf (fun c23 hf => ?_) (fun n23_0 hf => ?_)
  · refine E_tswIn (pc := 23) (off := 33) O 0 56 c23 dX4_look_23 (by decide) (by decide) (by decide) (by decide) ?_
    refine E_iload_n (pc := 56) O 2 dX4_look_56 rfl rfl ?_
    refine E_if_eq (pc := 57) O 174 dX4_look_57 (by decide) hf (fun hf => ?_) (fun hf => ?_)
    · exact E_sub (L' := [none, none, none]) True.intro (t_b_X4_look_174 O Z h hf)
    · refine E_aload_n (pc := 60) O 0 dX4_look_60 rfl rfl ?_
      refine E_iload_n (pc := 61) O 1 dX4_look_61 rfl rfl ?_
      refine E_bipush (pc := 62) O (13 : Int32) dX4_look_62 (by decide) ?_
      refine E_iconst (pc := 64) O (0 : Int32) dX4_look_64 (by decide) ?_
      refine E_callV_v (pc := 65) (S := []) O [.int x1, .int (13 : Int32), .int (0 : Int32)] CV_RailSequenceModel_40 rfl (fun r e => t_X4_lay e) dX4_look_65 hf rfl ⟨(Nat.le_of_ble_eq_true rfl), (Nat.le_of_ble_eq_true rfl)⟩ ⟨(Nat.le_of_ble_eq_true rfl), (Nat.le_of_ble_eq_true rfl)⟩ (Nat.le_of_ble_eq_true rfl) (fun h5 hf => ?_)
      refine E_aload_n (pc := 68) O 0 dX4_look_68 rfl rfl ?_
      refine E_iload_n (pc := 69) O 1 dX4_look_69 rfl rfl ?_
      refine E_bipush (pc := 70) O (14 : Int32) dX4_look_70 (by decide) ?_
      refine E_iconst (pc := 72) O (0 : Int32) dX4_look_72 (by decide) ?_
      refine E_callV_v (pc := 73) (S := []) O [.int x1, .int (14 : Int32), .int (0 : Int32)] CV_RailSequenceModel_40 rfl (fun r e => t_X4_lay e) dX4_look_73 hf rfl ⟨(Nat.le_of_ble_eq_true rfl), (Nat.le_of_ble_eq_true rfl)⟩ ⟨(Nat.le_of_ble_eq_true rfl), (Nat.le_of_ble_eq_true rfl)⟩ (Nat.le_of_ble_eq_true rfl) (fun h6 hf => ?_)
      refine E_aload_n (pc := 76) O 0 dX4_look_76 rfl rfl ?_
      refine E_iload_n (pc := 77) O 1 dX4_look_77 rfl rfl ?_
      refine E_iconst (pc := 78) O (1 : Int32) dX4_look_78 (by decide) ?_
      refine E_callV_v (pc := 79) (S := []) O [.int x1, .int (1 : Int32)] CV_RailSequenceModel_54 rfl (fun r e => t_X4_become e) dX4_look_79 hf rfl ⟨(Nat.le_of_ble_eq_true rfl), (Nat.le_of_ble_eq_true rfl)⟩ ⟨(Nat.le_of_ble_eq_true rfl), (Nat.le_of_ble_eq_true rfl)⟩ (Nat.le_of_ble_eq_true rfl) (fun h7 hf => ?_)
      refine E_goto (pc := 82) O 174 dX4_look_82 (by decide) ?_
      exact E_sub (L' := [none, none, none]) True.intro (t_b_X4_look_174 O Z h7 hf)
  · refine E_ite hf (fun c23 hf => ?_) (fun n23_1 hf => ?_)
    · refine E_tswIn (pc := 23) (off := 62) O 1 85 c23 dX4_look_23 (by decide) (by decide) (by decide) (by decide) ?_
      refine E_aload_n (pc := 85) O 0 dX4_look_85 rfl rfl ?_
      refine E_iload_n (pc := 86) O 1 dX4_look_86 rfl rfl ?_
      refine E_callV_v (pc := 87) (S := []) O [.int x1] CV_RailSequenceModel_86 rfl (fun r e => t_X4_lookWaiting e) dX4_look_87 hf rfl ⟨(Nat.le_of_ble_eq_true rfl), (Nat.le_of_ble_eq_true rfl)⟩ ⟨(Nat.le_of_ble_eq_true rfl), (Nat.le_of_ble_eq_true rfl)⟩ (Nat.le_of_ble_eq_true rfl) (fun h8 hf => ?_)
      refine E_goto (pc := 90) O 174 dX4_look_90 (by decide) ?_
      exact E_sub (L' := [none, none, none]) True.intro (t_b_X4_look_174 O Z h8 hf)
    · refine E_ite hf (fun c23 hf => ?_) (fun n23_2 hf => ?_)
      · refine E_tswIn (pc := 23) (off := 70) O 2 93 c23 dX4_look_23 (by decide) (by decide) (by decide) (by decide) ?_
        refine E_aload_n (pc := 93) O 0 dX4_look_93 rfl rfl ?_
        refine E_iload_n (pc := 94) O 1 dX4_look_94 rfl rfl ?_
        refine E_callV_v (pc := 95) (S := []) O [.int x1] CV_RailSequenceModel_89 rfl (fun r e => t_X4_lookRising e) dX4_look_95 hf rfl ⟨(Nat.le_of_ble_eq_true rfl), (Nat.le_of_ble_eq_true rfl)⟩ ⟨(Nat.le_of_ble_eq_true rfl), (Nat.le_of_ble_eq_true rfl)⟩ (Nat.le_of_ble_eq_true rfl) (fun h9 hf => ?_)
        refine E_goto (pc := 98) O 174 dX4_look_98 (by decide) ?_
        exact E_sub (L' := [none, none, none]) True.intro (t_b_X4_look_174 O Z h9 hf)
      · refine E_ite hf (fun c23 hf => ?_) (fun n23_3 hf => ?_)
        · refine E_tswIn (pc := 23) (off := 78) O 3 101 c23 dX4_look_23 (by decide) (by decide) (by decide) (by decide) ?_
          refine E_aload_n (pc := 101) O 0 dX4_look_101 rfl rfl ?_
          refine E_iload_n (pc := 102) O 1 dX4_look_102 rfl rfl ?_
          refine E_callV_v (pc := 103) (S := []) O [.int x1] CV_RailSequenceModel_92 rfl (fun r e => t_X4_lookGood e) dX4_look_103 hf rfl ⟨(Nat.le_of_ble_eq_true rfl), (Nat.le_of_ble_eq_true rfl)⟩ ⟨(Nat.le_of_ble_eq_true rfl), (Nat.le_of_ble_eq_true rfl)⟩ (Nat.le_of_ble_eq_true rfl) (fun h10 hf => ?_)
          refine E_goto (pc := 106) O 174 dX4_look_106 (by decide) ?_
          exact E_sub (L' := [none, none, none]) True.intro (t_b_X4_look_174 O Z h10 hf)
        · refine E_ite hf (fun c23 hf => ?_) (fun n23_4 hf => ?_)
          · refine E_tswIn (pc := 23) (off := 86) O 4 109 c23 dX4_look_23 (by decide) (by decide) (by decide) (by decide) ?_
            refine E_aload_n (pc := 109) O 0 dX4_look_109 rfl rfl ?_
            refine E_iload_n (pc := 110) O 1 dX4_look_110 rfl rfl ?_
            refine E_callV_iP (pc := 111) (S := []) O [.int x1] CV_RailSequenceModel_69 rfl (fun r e => t_X4_isDischarged e) dX4_look_111 hf rfl ⟨(Nat.le_of_ble_eq_true rfl), (Nat.le_of_ble_eq_true rfl)⟩ ⟨(Nat.le_of_ble_eq_true rfl), (Nat.le_of_ble_eq_true rfl)⟩ (Nat.le_of_ble_eq_true rfl) (fun v11 hf => ?_)
            refine E_if_eq (pc := 114) O 174 dX4_look_114 (by decide) hf (fun hf => ?_) (fun hf => ?_)
            · exact E_sub (L' := [none, none, none]) True.intro (t_b_X4_look_174 O Z h hf)
            · refine E_aload_n (pc := 117) O 0 dX4_look_117 rfl rfl ?_
              refine E_iload_n (pc := 118) O 1 dX4_look_118 rfl rfl ?_
              refine E_bipush (pc := 119) O (13 : Int32) dX4_look_119 (by decide) ?_
              refine E_iload_n (pc := 121) O 2 dX4_look_121 rfl rfl ?_
              refine E_if_eq (pc := 122) O 129 dX4_look_122 (by decide) hf (fun hf => ?_) (fun hf => ?_)
              · refine E_aload_n (pc := 129) O 0 dX4_look_129 rfl rfl ?_
                refine E_iload_n (pc := 130) O 1 dX4_look_130 rfl rfl ?_
                refine E_bipush (pc := 131) O (13 : Int32) dX4_look_131 (by decide) ?_
                refine E_callV_iP (pc := 133) (S := [.int (13 : Int32), .int x1, .ref x0]) O [.int x1, .int (13 : Int32)] CV_RailSequenceModel_36 rfl (fun r e => t_X4_of e) dX4_look_133 hf rfl ⟨(Nat.le_of_ble_eq_true rfl), (Nat.le_of_ble_eq_true rfl)⟩ ⟨(Nat.le_of_ble_eq_true rfl), (Nat.le_of_ble_eq_true rfl)⟩ (Nat.le_of_ble_eq_true rfl) (fun v12 hf => ?_)
                exact t_b_X4_look_136 O Z h x0 x1 s0 x0 x1 (13 : Int32) v12 hf
              · refine E_iconst (pc := 125) O (0 : Int32) dX4_look_125 (by decide) ?_
                refine E_goto (pc := 126) O 136 dX4_look_126 (by decide) ?_
                exact t_b_X4_look_136 O Z h x0 x1 s0 x0 x1 (13 : Int32) (0 : Int32) hf
          · refine E_tswOut (pc := 23) O 156 dX4_look_23 (by have z := tsw_out 0 5 (by decide) (lt_s (lt_s (lt_s (lt_s (lt_s lt_0 n23_0) n23_1) n23_2) n23_3) n23_4); omega) (by decide) ?_
            refine E_iload_n (pc := 156) O 2 dX4_look_156 rfl rfl ?_
            refine E_if_ne (pc := 157) O 174 dX4_look_157 (by decide) hf (fun hf => ?_) (fun hf => ?_)
            · exact E_sub (L' := [none, none, none]) True.intro (t_b_X4_look_174 O Z h hf)
            · refine E_aload_n (pc := 160) O 0 dX4_look_160 rfl rfl ?_
              refine E_iload_n (pc := 161) O 1 dX4_look_161 rfl rfl ?_
              refine E_callV_iP (pc := 162) (S := []) O [.int x1] CV_RailSequenceModel_69 rfl (fun r e => t_X4_isDischarged e) dX4_look_162 hf rfl ⟨(Nat.le_of_ble_eq_true rfl), (Nat.le_of_ble_eq_true rfl)⟩ ⟨(Nat.le_of_ble_eq_true rfl), (Nat.le_of_ble_eq_true rfl)⟩ (Nat.le_of_ble_eq_true rfl) (fun v13 hf => ?_)
              refine E_if_eq (pc := 165) O 174 dX4_look_165 (by decide) hf (fun hf => ?_) (fun hf => ?_)
              · exact E_sub (L' := [none, none, none]) True.intro (t_b_X4_look_174 O Z h hf)
              · refine E_aload_n (pc := 168) O 0 dX4_look_168 rfl rfl ?_
                refine E_iload_n (pc := 169) O 1 dX4_look_169 rfl rfl ?_
                refine E_iconst (pc := 170) O (0 : Int32) dX4_look_170 (by decide) ?_
                refine E_callV_v (pc := 171) (S := []) O [.int x1, .int (0 : Int32)] CV_RailSequenceModel_54 rfl (fun r e => t_X4_become e) dX4_look_171 hf rfl ⟨(Nat.le_of_ble_eq_true rfl), (Nat.le_of_ble_eq_true rfl)⟩ ⟨(Nat.le_of_ble_eq_true rfl), (Nat.le_of_ble_eq_true rfl)⟩ (Nat.le_of_ble_eq_true rfl) (fun h14 hf => ?_)
                exact E_sub (L' := [none, none, none]) True.intro (t_b_X4_look_174 O Z h14 hf)
set_option maxHeartbeats 4000000 in
set_option maxRecDepth 100000 in
theorem t_X4_look {g : Gx} {fr : Bool} {h : MH} {x0 x1} {out : MH} (hf : f_X4_look h x0 x1 = some out) : MM g yX4_look cX4_look 3 none 5 112 0 0 fr fr [.ref x0, .int x1] h none out := by
  unfold f_X4_look at hf
  refine MM_of (L := [some (.ref x0), some (.int x1), none]) (by decide) (Nat.le_of_ble_eq_true rfl) rfl (fun K hK O Z hn => ?_)
  refine E_aload_n (pc := 0) O 0 dX4_look_0 rfl rfl ?_
  refine E_iload_n (pc := 1) O 1 dX4_look_1 rfl rfl ?_
  refine E_bipush (pc := 2) O (8 : Int32) dX4_look_2 (by decide) ?_
  refine E_callV_iP (pc := 4) (S := []) O [.int x1, .int (8 : Int32)] CV_RailSequenceModel_36 rfl (fun r e => t_X4_of e) dX4_look_4 hf rfl ⟨(Nat.le_of_ble_eq_true rfl), (Nat.le_of_ble_eq_true rfl)⟩ ⟨(Nat.le_of_ble_eq_true rfl), (Nat.le_of_ble_eq_true rfl)⟩ (Nat.le_of_ble_eq_true rfl) (fun v15 hf => ?_)
  refine E_iconst (pc := 7) O (1 : Int32) dX4_look_7 (by decide) ?_
  refine E_icmp_ne (pc := 8) O 15 dX4_look_8 (by decide) hf (fun hf => ?_) (fun hf => ?_)
  · refine E_iconst (pc := 15) O (0 : Int32) dX4_look_15 (by decide) ?_
    exact t_b_X4_look_16 O Z h x0 x1 (0 : Int32) hf
  · refine E_iconst (pc := 11) O (1 : Int32) dX4_look_11 (by decide) ?_
    refine E_goto (pc := 12) O 16 dX4_look_12 (by decide) ?_
    exact t_b_X4_look_16 O Z h x0 x1 (1 : Int32) hf
set_option maxHeartbeats 4000000 in
set_option maxRecDepth 100000 in
theorem t_b_X4_pass_119 {K : Cx} {fr : Bool} {out : MH} (O : Ok K yX4_pass.cls cX4_pass 2 (rmm 6 134 0 0)) (Z : Out K none fr none out) (rec61 : MH → Nat → Int32 → Option MH) (hr61 : ∀ (h : MH) (x0 : Nat) (x1 : Int32), rec61 h x0 x1 = some out → EE K (fr, 0, 0) 61 [some (.ref x0), some (.int x1)] [] h) (h : MH) (x0 : Nat) (x1 : Int32) (hf : b_X4_pass_119 rec61 h x0 x1 = some out) : EE K (fr, 0, 0) 119 [some (.ref x0), some (.int x1)] [] h := by
  unfold b_X4_pass_119 at hf
  refine E_iinc (pc := 119) O (1 : Int32) [some (.ref x0), some (.int (x1 + (1 : Int32)))] dX4_pass_119 rfl (by decide) rfl (by decide) rfl ?_
  refine E_goto (pc := 122) O 61 dX4_pass_122 (by decide) ?_
  exact hr61 h x0 (x1 + (1 : Int32)) hf
set_option maxHeartbeats 4000000 in
set_option maxRecDepth 100000 in
theorem t_b_X4_pass_98 {K : Cx} {fr : Bool} {out : MH} (O : Ok K yX4_pass.cls cX4_pass 2 (rmm 6 134 0 0)) (Z : Out K none fr none out) (rec61 : MH → Nat → Int32 → Option MH) (hr61 : ∀ (h : MH) (x0 : Nat) (x1 : Int32), rec61 h x0 x1 = some out → EE K (fr, 0, 0) 61 [some (.ref x0), some (.int x1)] [] h) (h : MH) (x0 : Nat) (x1 : Int32) (s0 : Nat) (s1 : Int32) (s2 : Int32) (s3 : Int32) (hf : b_X4_pass_98 rec61 h x0 x1 s0 s1 s2 s3 = some out) : EE K (fr, 0, 0) 98 [some (.ref x0), some (.int x1)] [.int s3, .int s2, .int s1, .ref s0] h := by
  unfold b_X4_pass_98 at hf
  refine E_callV_v (pc := 98) (S := []) O [.int s1, .int s2, .int s3] CV_RailSequenceModel_40 rfl (fun r e => t_X4_lay e) dX4_pass_98 hf rfl ⟨(Nat.le_of_ble_eq_true rfl), (Nat.le_of_ble_eq_true rfl)⟩ ⟨(Nat.le_of_ble_eq_true rfl), (Nat.le_of_ble_eq_true rfl)⟩ (Nat.le_of_ble_eq_true rfl) (fun h1 hf => ?_)
  refine E_aload_n (pc := 101) O 0 dX4_pass_101 rfl rfl ?_
  refine E_iload_n (pc := 102) O 1 dX4_pass_102 rfl rfl ?_
  refine E_bipush (pc := 103) O (9 : Int32) dX4_pass_103 (by decide) ?_
  refine E_callV_iP (pc := 105) (S := []) O [.int x1, .int (9 : Int32)] CV_RailSequenceModel_36 rfl (fun r e => t_X4_of e) dX4_pass_105 hf rfl ⟨(Nat.le_of_ble_eq_true rfl), (Nat.le_of_ble_eq_true rfl)⟩ ⟨(Nat.le_of_ble_eq_true rfl), (Nat.le_of_ble_eq_true rfl)⟩ (Nat.le_of_ble_eq_true rfl) (fun v2 hf => ?_)
  refine E_iconst (pc := 108) O (3 : Int32) dX4_pass_108 (by decide) ?_
  refine E_icmp_ne (pc := 109) O 119 dX4_pass_109 (by decide) hf (fun hf => ?_) (fun hf => ?_)
  · exact t_b_X4_pass_119 O Z _ hr61 h1 x0 x1 hf
  · refine E_aload_n (pc := 112) O 0 dX4_pass_112 rfl rfl ?_
    refine E_iload_n (pc := 113) O 1 dX4_pass_113 rfl rfl ?_
    refine E_bipush (pc := 114) O (19 : Int32) dX4_pass_114 (by decide) ?_
    refine E_callV_v (pc := 116) (S := []) O [.int x1, .int (19 : Int32)] CV_RailSequenceModel_50 rfl (fun r e => t_X4_add e) dX4_pass_116 hf rfl ⟨(Nat.le_of_ble_eq_true rfl), (Nat.le_of_ble_eq_true rfl)⟩ ⟨(Nat.le_of_ble_eq_true rfl), (Nat.le_of_ble_eq_true rfl)⟩ (Nat.le_of_ble_eq_true rfl) (fun h3 hf => ?_)
    exact t_b_X4_pass_119 O Z _ hr61 h3 x0 x1 hf
set_option maxHeartbeats 4000000 in
set_option maxRecDepth 100000 in
theorem t_b_X4_pass_61 {K : Cx} {fr : Bool} {out : MH} (O : Ok K yX4_pass.cls cX4_pass 2 (rmm 6 134 0 0)) (Z : Out K none fr none out) (rec61 : MH → Nat → Int32 → Option MH) (hr61 : ∀ (h : MH) (x0 : Nat) (x1 : Int32), rec61 h x0 x1 = some out → EE K (fr, 0, 0) 61 [some (.ref x0), some (.int x1)] [] h) (h : MH) (x0 : Nat) (x1 : Int32) (hf : b_X4_pass_61 rec61 h x0 x1 = some out) : EE K (fr, 0, 0) 61 [some (.ref x0), some (.int x1)] [] h := by
  unfold b_X4_pass_61 at hf
  refine E_iload_n (pc := 61) O 1 dX4_pass_61 rfl rfl ?_
  refine E_aload_n (pc := 62) O 0 dX4_pass_62 rfl rfl ?_
  refine E_getR (pc := 63) O FL_RailSequenceModel_7 dX4_pass_63 hf (fun v4 hf => ?_)
  refine E_iconst (pc := 66) O (0 : Int32) dX4_pass_66 (by decide) ?_
  refine E_iaload (pc := 67) O dX4_pass_67 hf (fun v5 hf => ?_)
  refine E_icmp_ge (pc := 68) O 125 dX4_pass_68 (by decide) hf (fun hf => ?_) (fun hf => ?_)
  · refine E_aload_n (pc := 125) O 0 dX4_pass_125 rfl rfl ?_
    refine E_getR (pc := 126) O FL_RailSequenceModel_7 dX4_pass_126 hf (fun v6 hf => ?_)
    refine E_iconst (pc := 129) O (2 : Int32) dX4_pass_129 (by decide) ?_
    refine E_dup2 (pc := 130) O dX4_pass_130 rfl rfl ?_
    refine E_iaload (pc := 131) O dX4_pass_131 hf (fun v7 hf => ?_)
    refine E_iconst (pc := 132) O (1 : Int32) dX4_pass_132 (by decide) ?_
    refine E_iadd (pc := 133) O dX4_pass_133 ?_
    refine E_iastore (pc := 134) O dX4_pass_134 hf (fun h8 hf => ?_)
    exact E_vret (pc := 135) O Z hf ⟨(Nat.le_of_ble_eq_true rfl), (Nat.le_of_ble_eq_true rfl)⟩ dX4_pass_135
  · refine E_aload_n (pc := 71) O 0 dX4_pass_71 rfl rfl ?_
    refine E_iload_n (pc := 72) O 1 dX4_pass_72 rfl rfl ?_
    refine E_bipush (pc := 73) O (12 : Int32) dX4_pass_73 (by decide) ?_
    refine E_aload_n (pc := 75) O 0 dX4_pass_75 rfl rfl ?_
    refine E_iload_n (pc := 76) O 1 dX4_pass_76 rfl rfl ?_
    refine E_bipush (pc := 77) O (12 : Int32) dX4_pass_77 (by decide) ?_
    refine E_callV_iP (pc := 79) (S := [.int (12 : Int32), .int x1, .ref x0]) O [.int x1, .int (12 : Int32)] CV_RailSequenceModel_36 rfl (fun r e => t_X4_of e) dX4_pass_79 hf rfl ⟨(Nat.le_of_ble_eq_true rfl), (Nat.le_of_ble_eq_true rfl)⟩ ⟨(Nat.le_of_ble_eq_true rfl), (Nat.le_of_ble_eq_true rfl)⟩ (Nat.le_of_ble_eq_true rfl) (fun v9 hf => ?_)
    refine E_if_le (pc := 82) O 97 dX4_pass_82 (by decide) hf (fun hf => ?_) (fun hf => ?_)
    · refine E_iconst (pc := 97) O (0 : Int32) dX4_pass_97 (by decide) ?_
      exact t_b_X4_pass_98 O Z _ hr61 h x0 x1 x0 x1 (12 : Int32) (0 : Int32) hf
    · refine E_aload_n (pc := 85) O 0 dX4_pass_85 rfl rfl ?_
      refine E_iload_n (pc := 86) O 1 dX4_pass_86 rfl rfl ?_
      refine E_bipush (pc := 87) O (12 : Int32) dX4_pass_87 (by decide) ?_
      refine E_callV_iP (pc := 89) (S := [.int (12 : Int32), .int x1, .ref x0]) O [.int x1, .int (12 : Int32)] CV_RailSequenceModel_36 rfl (fun r e => t_X4_of e) dX4_pass_89 hf rfl ⟨(Nat.le_of_ble_eq_true rfl), (Nat.le_of_ble_eq_true rfl)⟩ ⟨(Nat.le_of_ble_eq_true rfl), (Nat.le_of_ble_eq_true rfl)⟩ (Nat.le_of_ble_eq_true rfl) (fun v10 hf => ?_)
      refine E_iconst (pc := 92) O (1 : Int32) dX4_pass_92 (by decide) ?_
      refine E_isub (pc := 93) O dX4_pass_93 ?_
      refine E_goto (pc := 94) O 98 dX4_pass_94 (by decide) ?_
      exact t_b_X4_pass_98 O Z _ hr61 h x0 x1 x0 x1 (12 : Int32) (v10 - (1 : Int32)) hf
theorem t_f_X4_pass_61 {K : Cx} {fr : Bool} {out : MH} (O : Ok K yX4_pass.cls cX4_pass 2 (rmm 6 134 0 0)) (Z : Out K none fr none out) : ∀ (n : Nat) (h : MH) (x0 : Nat) (x1 : Int32), f_X4_pass_61 n h x0 x1 = some out → EE K (fr, 0, 0) 61 [some (.ref x0), some (.int x1)] [] h := by
  intro n
  induction n with
  | zero => intro h x0 x1 hf; cases hf
  | succ n ih => intro h x0 x1 hf; exact t_b_X4_pass_61 O Z _ ih h x0 x1 hf
set_option maxHeartbeats 4000000 in
set_option maxRecDepth 100000 in
theorem t_b_X4_pass_38 {K : Cx} {fr : Bool} {out : MH} (O : Ok K yX4_pass.cls cX4_pass 2 (rmm 6 134 0 0)) (Z : Out K none fr none out) (rec38 : MH → Nat → Int32 → Option MH) (hr38 : ∀ (h : MH) (x0 : Nat) (x1 : Int32), rec38 h x0 x1 = some out → EE K (fr, 0, 0) 38 [some (.ref x0), some (.int x1)] [] h) (h : MH) (x0 : Nat) (x1 : Int32) (hf : b_X4_pass_38 rec38 h x0 x1 = some out) : EE K (fr, 0, 0) 38 [some (.ref x0), some (.int x1)] [] h := by
  unfold b_X4_pass_38 at hf
  refine E_iload_n (pc := 38) O 1 dX4_pass_38 rfl rfl ?_
  refine E_aload_n (pc := 39) O 0 dX4_pass_39 rfl rfl ?_
  refine E_getR (pc := 40) O FL_RailSequenceModel_7 dX4_pass_40 hf (fun v11 hf => ?_)
  refine E_iconst (pc := 43) O (0 : Int32) dX4_pass_43 (by decide) ?_
  refine E_iaload (pc := 44) O dX4_pass_44 hf (fun v12 hf => ?_)
  refine E_icmp_ge (pc := 45) O 59 dX4_pass_45 (by decide) hf (fun hf => ?_) (fun hf => ?_)
  · refine E_iconst (pc := 59) O (0 : Int32) dX4_pass_59 (by decide) ?_
    refine E_istore_n (pc := 60) O 1 [some (.ref x0), some (.int (0 : Int32))] dX4_pass_60 rfl (by decide) rfl rfl ?_
    exact t_f_X4_pass_61 O Z FU h x0 (0 : Int32) hf
  · refine E_aload_n (pc := 48) O 0 dX4_pass_48 rfl rfl ?_
    refine E_iload_n (pc := 49) O 1 dX4_pass_49 rfl rfl ?_
    refine E_callV_v (pc := 50) (S := []) O [.int x1] CV_RailSequenceModel_98 rfl (fun r e => t_X4_look e) dX4_pass_50 hf rfl ⟨(Nat.le_of_ble_eq_true rfl), (Nat.le_of_ble_eq_true rfl)⟩ ⟨(Nat.le_of_ble_eq_true rfl), (Nat.le_of_ble_eq_true rfl)⟩ (Nat.le_of_ble_eq_true rfl) (fun h13 hf => ?_)
    refine E_iinc (pc := 53) O (1 : Int32) [some (.ref x0), some (.int (x1 + (1 : Int32)))] dX4_pass_53 rfl (by decide) rfl (by decide) rfl ?_
    refine E_goto (pc := 56) O 38 dX4_pass_56 (by decide) ?_
    exact hr38 h13 x0 (x1 + (1 : Int32)) hf
theorem t_f_X4_pass_38 {K : Cx} {fr : Bool} {out : MH} (O : Ok K yX4_pass.cls cX4_pass 2 (rmm 6 134 0 0)) (Z : Out K none fr none out) : ∀ (n : Nat) (h : MH) (x0 : Nat) (x1 : Int32), f_X4_pass_38 n h x0 x1 = some out → EE K (fr, 0, 0) 38 [some (.ref x0), some (.int x1)] [] h := by
  intro n
  induction n with
  | zero => intro h x0 x1 hf; cases hf
  | succ n ih => intro h x0 x1 hf; exact t_b_X4_pass_38 O Z _ ih h x0 x1 hf
set_option maxHeartbeats 4000000 in
set_option maxRecDepth 100000 in
theorem t_b_X4_pass_2 {K : Cx} {fr : Bool} {out : MH} (O : Ok K yX4_pass.cls cX4_pass 2 (rmm 6 134 0 0)) (Z : Out K none fr none out) (rec2 : MH → Nat → Int32 → Option MH) (hr2 : ∀ (h : MH) (x0 : Nat) (x1 : Int32), rec2 h x0 x1 = some out → EE K (fr, 0, 0) 2 [some (.ref x0), some (.int x1)] [] h) (h : MH) (x0 : Nat) (x1 : Int32) (hf : b_X4_pass_2 rec2 h x0 x1 = some out) : EE K (fr, 0, 0) 2 [some (.ref x0), some (.int x1)] [] h := by
  unfold b_X4_pass_2 at hf
  refine E_iload_n (pc := 2) O 1 dX4_pass_2 rfl rfl ?_
  refine E_aload_n (pc := 3) O 0 dX4_pass_3 rfl rfl ?_
  refine E_getR (pc := 4) O FL_RailSequenceModel_7 dX4_pass_4 hf (fun v14 hf => ?_)
  refine E_iconst (pc := 7) O (0 : Int32) dX4_pass_7 (by decide) ?_
  refine E_iaload (pc := 8) O dX4_pass_8 hf (fun v15 hf => ?_)
  refine E_icmp_ge (pc := 9) O 36 dX4_pass_9 (by decide) hf (fun hf => ?_) (fun hf => ?_)
  · refine E_iconst (pc := 36) O (0 : Int32) dX4_pass_36 (by decide) ?_
    refine E_istore_n (pc := 37) O 1 [some (.ref x0), some (.int (0 : Int32))] dX4_pass_37 rfl (by decide) rfl rfl ?_
    exact t_f_X4_pass_38 O Z FU h x0 (0 : Int32) hf
  · refine E_aload_n (pc := 12) O 0 dX4_pass_12 rfl rfl ?_
    refine E_iload_n (pc := 13) O 1 dX4_pass_13 rfl rfl ?_
    refine E_callV_v (pc := 14) (S := []) O [.int x1] CV_RailSequenceModel_95 rfl (fun r e => t_X4_moveVoltage e) dX4_pass_14 hf rfl ⟨(Nat.le_of_ble_eq_true rfl), (Nat.le_of_ble_eq_true rfl)⟩ ⟨(Nat.le_of_ble_eq_true rfl), (Nat.le_of_ble_eq_true rfl)⟩ (Nat.le_of_ble_eq_true rfl) (fun h16 hf => ?_)
    refine E_aload_n (pc := 17) O 0 dX4_pass_17 rfl rfl ?_
    refine E_getR (pc := 18) O FL_RailSequenceModel_19 dX4_pass_18 hf (fun v17 hf => ?_)
    refine E_iload_n (pc := 21) O 1 dX4_pass_21 rfl rfl ?_
    refine E_aload_n (pc := 22) O 0 dX4_pass_22 rfl rfl ?_
    refine E_iload_n (pc := 23) O 1 dX4_pass_23 rfl rfl ?_
    refine E_bipush (pc := 24) O (9 : Int32) dX4_pass_24 (by decide) ?_
    refine E_callV_iP (pc := 26) (S := [.int x1, .ref v17]) O [.int x1, .int (9 : Int32)] CV_RailSequenceModel_36 rfl (fun r e => t_X4_of e) dX4_pass_26 hf rfl ⟨(Nat.le_of_ble_eq_true rfl), (Nat.le_of_ble_eq_true rfl)⟩ ⟨(Nat.le_of_ble_eq_true rfl), (Nat.le_of_ble_eq_true rfl)⟩ (Nat.le_of_ble_eq_true rfl) (fun v18 hf => ?_)
    refine E_iastore (pc := 29) O dX4_pass_29 hf (fun h19 hf => ?_)
    refine E_iinc (pc := 30) O (1 : Int32) [some (.ref x0), some (.int (x1 + (1 : Int32)))] dX4_pass_30 rfl (by decide) rfl (by decide) rfl ?_
    refine E_goto (pc := 33) O 2 dX4_pass_33 (by decide) ?_
    exact hr2 h19 x0 (x1 + (1 : Int32)) hf
theorem t_f_X4_pass_2 {K : Cx} {fr : Bool} {out : MH} (O : Ok K yX4_pass.cls cX4_pass 2 (rmm 6 134 0 0)) (Z : Out K none fr none out) : ∀ (n : Nat) (h : MH) (x0 : Nat) (x1 : Int32), f_X4_pass_2 n h x0 x1 = some out → EE K (fr, 0, 0) 2 [some (.ref x0), some (.int x1)] [] h := by
  intro n
  induction n with
  | zero => intro h x0 x1 hf; cases hf
  | succ n ih => intro h x0 x1 hf; exact t_b_X4_pass_2 O Z _ ih h x0 x1 hf
set_option maxHeartbeats 4000000 in
set_option maxRecDepth 100000 in
theorem t_X4_pass {g : Gx} {fr : Bool} {h : MH} {x0} {out : MH} (hf : f_X4_pass h x0 = some out) : MM g yX4_pass cX4_pass 2 none 6 134 0 0 fr fr [.ref x0] h none out := by
  unfold f_X4_pass at hf
  refine MM_of (L := [some (.ref x0), none]) (by decide) (Nat.le_of_ble_eq_true rfl) rfl (fun K hK O Z hn => ?_)
  refine E_iconst (pc := 0) O (0 : Int32) dX4_pass_0 (by decide) ?_
  refine E_istore_n (pc := 1) O 1 [some (.ref x0), some (.int (0 : Int32))] dX4_pass_1 rfl (by decide) rfl rfl ?_
  exact t_f_X4_pass_2 O Z FU h x0 (0 : Int32) hf
set_option maxHeartbeats 4000000 in
set_option maxRecDepth 100000 in
theorem t_b_X4_save_54 {K : Cx} {fr : Bool} {out : MH} (O : Ok K yX4_save.cls cX4_save 2 (rmm 0 0 0 0)) (Z : Out K none fr none out) (rec54 : MH → Nat → Int32 → Option MH) (hr54 : ∀ (h : MH) (x0 : Nat) (x1 : Int32), rec54 h x0 x1 = some out → EE K (fr, 0, 0) 54 [some (.ref x0), some (.int x1)] [] h) (h : MH) (x0 : Nat) (x1 : Int32) (hf : b_X4_save_54 rec54 h x0 x1 = some out) : EE K (fr, 0, 0) 54 [some (.ref x0), some (.int x1)] [] h := by
  unfold b_X4_save_54 at hf
  refine E_iload_n (pc := 54) O 1 dX4_save_54 rfl rfl ?_
  refine E_sipush (pc := 55) O (228 : Int32) dX4_save_55 (by decide) ?_
  refine E_icmp_ge (pc := 58) O 88 dX4_save_58 (by decide) hf (fun hf => ?_) (fun hf => ?_)
  · refine E_aload_n (pc := 88) O 0 dX4_save_88 rfl rfl ?_
    refine E_dup (pc := 89) O dX4_save_89 rfl ?_
    refine E_getI (pc := 90) O FL_RailSequenceModel_101 dX4_save_90 hf (fun v1 hf => ?_)
    refine E_iconst (pc := 93) O (1 : Int32) dX4_save_93 (by decide) ?_
    refine E_iadd (pc := 94) O dX4_save_94 ?_
    refine E_put (pc := 95) O FN_RailSequenceModel_101 rfl rfl dX4_save_95 hf (fun h2 hf => ?_)
    exact E_vret (pc := 98) O Z hf ⟨(Nat.le_of_ble_eq_true rfl), (Nat.le_of_ble_eq_true rfl)⟩ dX4_save_98
  · refine E_aload_n (pc := 61) O 0 dX4_save_61 rfl rfl ?_
    refine E_getR (pc := 62) O FL_RailSequenceModel_13 dX4_save_62 hf (fun v3 hf => ?_)
    refine E_sipush (pc := 65) O (228 : Int32) dX4_save_65 (by decide) ?_
    refine E_aload_n (pc := 68) O 0 dX4_save_68 rfl rfl ?_
    refine E_getI (pc := 69) O FL_RailSequenceModel_101 dX4_save_69 hf (fun v4 hf => ?_)
    refine E_imul (pc := 72) O dX4_save_72 ?_
    refine E_iload_n (pc := 73) O 1 dX4_save_73 rfl rfl ?_
    refine E_iadd (pc := 74) O dX4_save_74 ?_
    refine E_aload_n (pc := 75) O 0 dX4_save_75 rfl rfl ?_
    refine E_getR (pc := 76) O FL_RailSequenceModel_7 dX4_save_76 hf (fun v5 hf => ?_)
    refine E_iload_n (pc := 79) O 1 dX4_save_79 rfl rfl ?_
    refine E_iaload (pc := 80) O dX4_save_80 hf (fun v6 hf => ?_)
    refine E_iastore (pc := 81) O dX4_save_81 hf (fun h7 hf => ?_)
    refine E_iinc (pc := 82) O (1 : Int32) [some (.ref x0), some (.int (x1 + (1 : Int32)))] dX4_save_82 rfl (by decide) rfl (by decide) rfl ?_
    refine E_goto (pc := 85) O 54 dX4_save_85 (by decide) ?_
    exact hr54 h7 x0 (x1 + (1 : Int32)) hf
theorem t_f_X4_save_54 {K : Cx} {fr : Bool} {out : MH} (O : Ok K yX4_save.cls cX4_save 2 (rmm 0 0 0 0)) (Z : Out K none fr none out) : ∀ (n : Nat) (h : MH) (x0 : Nat) (x1 : Int32), f_X4_save_54 n h x0 x1 = some out → EE K (fr, 0, 0) 54 [some (.ref x0), some (.int x1)] [] h := by
  intro n
  induction n with
  | zero => intro h x0 x1 hf; cases hf
  | succ n ih => intro h x0 x1 hf; exact t_b_X4_save_54 O Z _ ih h x0 x1 hf
set_option maxHeartbeats 4000000 in
set_option maxRecDepth 100000 in
theorem t_b_X4_save_52 {K : Cx} {fr : Bool} {out : MH} (O : Ok K yX4_save.cls cX4_save 2 (rmm 0 0 0 0)) (Z : Out K none fr none out) (h : MH) (x0 : Nat) (hf : b_X4_save_52 h x0 = some out) : EE K (fr, 0, 0) 52 [some (.ref x0), none] [] h := by
  unfold b_X4_save_52 at hf
  refine E_iconst (pc := 52) O (0 : Int32) dX4_save_52 (by decide) ?_
  refine E_istore_n (pc := 53) O 1 [some (.ref x0), some (.int (0 : Int32))] dX4_save_53 rfl (by decide) rfl rfl ?_
  exact t_f_X4_save_54 O Z FU h x0 (0 : Int32) hf
set_option maxHeartbeats 4000000 in
set_option maxRecDepth 100000 in
theorem t_b_X4_save_13 {K : Cx} {fr : Bool} {out : MH} (O : Ok K yX4_save.cls cX4_save 2 (rmm 0 0 0 0)) (Z : Out K none fr none out) (rec13 : MH → Nat → Int32 → Option MH) (hr13 : ∀ (h : MH) (x0 : Nat) (x1 : Int32), rec13 h x0 x1 = some out → EE K (fr, 0, 0) 13 [some (.ref x0), some (.int x1)] [] h) (h : MH) (x0 : Nat) (x1 : Int32) (hf : b_X4_save_13 rec13 h x0 x1 = some out) : EE K (fr, 0, 0) 13 [some (.ref x0), some (.int x1)] [] h := by
  unfold b_X4_save_13 at hf
  refine E_iload_n (pc := 13) O 1 dX4_save_13 rfl rfl ?_
  refine E_sipush (pc := 14) O (1368 : Int32) dX4_save_14 (by decide) ?_
  refine E_icmp_ge (pc := 17) O 42 dX4_save_17 (by decide) hf (fun hf => ?_) (fun hf => ?_)
  · refine E_aload_n (pc := 42) O 0 dX4_save_42 rfl rfl ?_
    refine E_dup (pc := 43) O dX4_save_43 rfl ?_
    refine E_getI (pc := 44) O FL_RailSequenceModel_101 dX4_save_44 hf (fun v8 hf => ?_)
    refine E_iconst (pc := 47) O (1 : Int32) dX4_save_47 (by decide) ?_
    refine E_isub (pc := 48) O dX4_save_48 ?_
    refine E_put (pc := 49) O FN_RailSequenceModel_101 rfl rfl dX4_save_49 hf (fun h9 hf => ?_)
    exact E_sub (L' := [some (.ref x0), none]) (And.intro rfl True.intro) (t_b_X4_save_52 O Z h9 x0 hf)
  · refine E_aload_n (pc := 20) O 0 dX4_save_20 rfl rfl ?_
    refine E_getR (pc := 21) O FL_RailSequenceModel_13 dX4_save_21 hf (fun v10 hf => ?_)
    refine E_iload_n (pc := 24) O 1 dX4_save_24 rfl rfl ?_
    refine E_sipush (pc := 25) O (228 : Int32) dX4_save_25 (by decide) ?_
    refine E_isub (pc := 28) O dX4_save_28 ?_
    refine E_aload_n (pc := 29) O 0 dX4_save_29 rfl rfl ?_
    refine E_getR (pc := 30) O FL_RailSequenceModel_13 dX4_save_30 hf (fun v11 hf => ?_)
    refine E_iload_n (pc := 33) O 1 dX4_save_33 rfl rfl ?_
    refine E_iaload (pc := 34) O dX4_save_34 hf (fun v12 hf => ?_)
    refine E_iastore (pc := 35) O dX4_save_35 hf (fun h13 hf => ?_)
    refine E_iinc (pc := 36) O (1 : Int32) [some (.ref x0), some (.int (x1 + (1 : Int32)))] dX4_save_36 rfl (by decide) rfl (by decide) rfl ?_
    refine E_goto (pc := 39) O 13 dX4_save_39 (by decide) ?_
    exact hr13 h13 x0 (x1 + (1 : Int32)) hf
theorem t_f_X4_save_13 {K : Cx} {fr : Bool} {out : MH} (O : Ok K yX4_save.cls cX4_save 2 (rmm 0 0 0 0)) (Z : Out K none fr none out) : ∀ (n : Nat) (h : MH) (x0 : Nat) (x1 : Int32), f_X4_save_13 n h x0 x1 = some out → EE K (fr, 0, 0) 13 [some (.ref x0), some (.int x1)] [] h := by
  intro n
  induction n with
  | zero => intro h x0 x1 hf; cases hf
  | succ n ih => intro h x0 x1 hf; exact t_b_X4_save_13 O Z _ ih h x0 x1 hf
set_option maxHeartbeats 4000000 in
set_option maxRecDepth 100000 in
theorem t_X4_save {g : Gx} {fr : Bool} {h : MH} {x0} {out : MH} (hf : f_X4_save h x0 = some out) : MM g yX4_save cX4_save 2 none 0 0 0 0 fr fr [.ref x0] h none out := by
  unfold f_X4_save at hf
  refine MM_of (L := [some (.ref x0), none]) (by decide) (Nat.le_of_ble_eq_true rfl) rfl (fun K hK O Z hn => ?_)
  refine E_aload_n (pc := 0) O 0 dX4_save_0 rfl rfl ?_
  refine E_getI (pc := 1) O FL_RailSequenceModel_101 dX4_save_1 hf (fun v14 hf => ?_)
  refine E_bipush (pc := 4) O (6 : Int32) dX4_save_4 (by decide) ?_
  refine E_icmp_ne (pc := 6) O 52 dX4_save_6 (by decide) hf (fun hf => ?_) (fun hf => ?_)
  · exact t_b_X4_save_52 O Z h x0 hf
  · refine E_sipush (pc := 9) O (228 : Int32) dX4_save_9 (by decide) ?_
    refine E_istore_n (pc := 12) O 1 [some (.ref x0), some (.int (228 : Int32))] dX4_save_12 rfl (by decide) rfl rfl ?_
    exact t_f_X4_save_13 O Z FU h x0 (228 : Int32) hf
set_option maxHeartbeats 4000000 in
set_option maxRecDepth 100000 in
theorem t_b_X4_undo_37 {K : Cx} {fr : Bool} {out : (Int32 × MH)} (O : Ok K yX4_undo.cls cX4_undo 2 (rmm 0 0 0 0)) (Z : Out K (some .int) fr (some (.int out.1)) out.2) (rec37 : MH → Nat → Int32 → Option (Int32 × MH)) (hr37 : ∀ (h : MH) (x0 : Nat) (x1 : Int32), rec37 h x0 x1 = some out → EE K (fr, 0, 0) 37 [some (.ref x0), some (.int x1)] [] h) (h : MH) (x0 : Nat) (x1 : Int32) (hf : b_X4_undo_37 rec37 h x0 x1 = some out) : EE K (fr, 0, 0) 37 [some (.ref x0), some (.int x1)] [] h := by
  unfold b_X4_undo_37 at hf
  refine E_iload_n (pc := 37) O 1 dX4_undo_37 rfl rfl ?_
  refine E_sipush (pc := 38) O (228 : Int32) dX4_undo_38 (by decide) ?_
  refine E_icmp_ge (pc := 41) O 71 dX4_undo_41 (by decide) hf (fun hf => ?_) (fun hf => ?_)
  · refine E_aload_n (pc := 71) O 0 dX4_undo_71 rfl rfl ?_
    refine E_getI (pc := 72) O FL_RailSequenceModel_101 dX4_undo_72 hf (fun v1 hf => ?_)
    exact E_iret (pc := 75) O Z hf ⟨(Nat.le_of_ble_eq_true rfl), (Nat.le_of_ble_eq_true rfl)⟩ dX4_undo_75
  · refine E_aload_n (pc := 44) O 0 dX4_undo_44 rfl rfl ?_
    refine E_getR (pc := 45) O FL_RailSequenceModel_7 dX4_undo_45 hf (fun v2 hf => ?_)
    refine E_iload_n (pc := 48) O 1 dX4_undo_48 rfl rfl ?_
    refine E_aload_n (pc := 49) O 0 dX4_undo_49 rfl rfl ?_
    refine E_getR (pc := 50) O FL_RailSequenceModel_13 dX4_undo_50 hf (fun v3 hf => ?_)
    refine E_sipush (pc := 53) O (228 : Int32) dX4_undo_53 (by decide) ?_
    refine E_aload_n (pc := 56) O 0 dX4_undo_56 rfl rfl ?_
    refine E_getI (pc := 57) O FL_RailSequenceModel_101 dX4_undo_57 hf (fun v4 hf => ?_)
    refine E_imul (pc := 60) O dX4_undo_60 ?_
    refine E_iload_n (pc := 61) O 1 dX4_undo_61 rfl rfl ?_
    refine E_iadd (pc := 62) O dX4_undo_62 ?_
    refine E_iaload (pc := 63) O dX4_undo_63 hf (fun v5 hf => ?_)
    refine E_iastore (pc := 64) O dX4_undo_64 hf (fun h6 hf => ?_)
    refine E_iinc (pc := 65) O (1 : Int32) [some (.ref x0), some (.int (x1 + (1 : Int32)))] dX4_undo_65 rfl (by decide) rfl (by decide) rfl ?_
    refine E_goto (pc := 68) O 37 dX4_undo_68 (by decide) ?_
    exact hr37 h6 x0 (x1 + (1 : Int32)) hf
theorem t_f_X4_undo_37 {K : Cx} {fr : Bool} {out : (Int32 × MH)} (O : Ok K yX4_undo.cls cX4_undo 2 (rmm 0 0 0 0)) (Z : Out K (some .int) fr (some (.int out.1)) out.2) : ∀ (n : Nat) (h : MH) (x0 : Nat) (x1 : Int32), f_X4_undo_37 n h x0 x1 = some out → EE K (fr, 0, 0) 37 [some (.ref x0), some (.int x1)] [] h := by
  intro n
  induction n with
  | zero => intro h x0 x1 hf; cases hf
  | succ n ih => intro h x0 x1 hf; exact t_b_X4_undo_37 O Z _ ih h x0 x1 hf
set_option maxHeartbeats 4000000 in
set_option maxRecDepth 100000 in
theorem t_b_X4_undo_13 {K : Cx} {fr : Bool} {out : (Int32 × MH)} (O : Ok K yX4_undo.cls cX4_undo 2 (rmm 0 0 0 0)) (Z : Out K (some .int) fr (some (.int out.1)) out.2) (h : MH) (x0 : Nat) (s0 : Nat) (s1 : Int32) (hf : b_X4_undo_13 h x0 s0 s1 = some out) : EE K (fr, 0, 0) 13 [some (.ref x0), none] [.int s1, .ref s0] h := by
  unfold b_X4_undo_13 at hf
  refine E_put (pc := 13) O FN_RailSequenceModel_28 rfl rfl dX4_undo_13 hf (fun h7 hf => ?_)
  refine E_aload_n (pc := 16) O 0 dX4_undo_16 rfl rfl ?_
  refine E_getI (pc := 17) O FL_RailSequenceModel_28 dX4_undo_17 hf (fun v8 hf => ?_)
  refine E_if_le (pc := 20) O 25 dX4_undo_20 (by decide) hf (fun hf => ?_) (fun hf => ?_)
  · refine E_aload_n (pc := 25) O 0 dX4_undo_25 rfl rfl ?_
    refine E_dup (pc := 26) O dX4_undo_26 rfl ?_
    refine E_getI (pc := 27) O FL_RailSequenceModel_101 dX4_undo_27 hf (fun v9 hf => ?_)
    refine E_iconst (pc := 30) O (1 : Int32) dX4_undo_30 (by decide) ?_
    refine E_isub (pc := 31) O dX4_undo_31 ?_
    refine E_put (pc := 32) O FN_RailSequenceModel_101 rfl rfl dX4_undo_32 hf (fun h10 hf => ?_)
    refine E_iconst (pc := 35) O (0 : Int32) dX4_undo_35 (by decide) ?_
    refine E_istore_n (pc := 36) O 1 [some (.ref x0), some (.int (0 : Int32))] dX4_undo_36 rfl (by decide) rfl rfl ?_
    exact t_f_X4_undo_37 O Z FU h10 x0 (0 : Int32) hf
  · refine E_iconst (pc := 23) O (0 : Int32) dX4_undo_23 (by decide) ?_
    exact E_iret (pc := 24) O Z hf ⟨(Nat.le_of_ble_eq_true rfl), (Nat.le_of_ble_eq_true rfl)⟩ dX4_undo_24
set_option maxHeartbeats 4000000 in
set_option maxRecDepth 100000 in
theorem t_X4_undo {g : Gx} {fr : Bool} {h : MH} {x0} {out : (Int32 × MH)} (hf : f_X4_undo h x0 = some out) : MM g yX4_undo cX4_undo 2 (some .int) 0 0 0 0 fr fr [.ref x0] h (some (.int out.1)) out.2 := by
  unfold f_X4_undo at hf
  refine MM_of (L := [some (.ref x0), none]) (by decide) (Nat.le_of_ble_eq_true rfl) rfl (fun K hK O Z hn => ?_)
  refine E_aload_n (pc := 0) O 0 dX4_undo_0 rfl rfl ?_
  refine E_aload_n (pc := 1) O 0 dX4_undo_1 rfl rfl ?_
  refine E_getI (pc := 2) O FL_RailSequenceModel_101 dX4_undo_2 hf (fun v11 hf => ?_)
  refine E_if_le (pc := 5) O 12 dX4_undo_5 (by decide) hf (fun hf => ?_) (fun hf => ?_)
  · refine E_iconst (pc := 12) O (1 : Int32) dX4_undo_12 (by decide) ?_
    exact t_b_X4_undo_13 O Z h x0 x0 (1 : Int32) hf
  · refine E_iconst (pc := 8) O (0 : Int32) dX4_undo_8 (by decide) ?_
    refine E_goto (pc := 9) O 13 dX4_undo_9 (by decide) ?_
    exact t_b_X4_undo_13 O Z h x0 x0 (0 : Int32) hf
set_option maxHeartbeats 4000000 in
set_option maxRecDepth 100000 in
theorem t_b_X4_keepAside_2 {K : Cx} {fr : Bool} {out : MH} (O : Ok K yX4_keepAside.cls cX4_keepAside 2 (rmm 0 0 0 0)) (Z : Out K none fr none out) (rec2 : MH → Nat → Int32 → Option MH) (hr2 : ∀ (h : MH) (x0 : Nat) (x1 : Int32), rec2 h x0 x1 = some out → EE K (fr, 0, 0) 2 [some (.ref x0), some (.int x1)] [] h) (h : MH) (x0 : Nat) (x1 : Int32) (hf : b_X4_keepAside_2 rec2 h x0 x1 = some out) : EE K (fr, 0, 0) 2 [some (.ref x0), some (.int x1)] [] h := by
  unfold b_X4_keepAside_2 at hf
  refine E_iload_n (pc := 2) O 1 dX4_keepAside_2 rfl rfl ?_
  refine E_sipush (pc := 3) O (228 : Int32) dX4_keepAside_3 (by decide) ?_
  refine E_icmp_ge (pc := 6) O 27 dX4_keepAside_6 (by decide) hf (fun hf => ?_) (fun hf => ?_)
  · exact E_vret (pc := 27) O Z hf ⟨(Nat.le_of_ble_eq_true rfl), (Nat.le_of_ble_eq_true rfl)⟩ dX4_keepAside_27
  · refine E_aload_n (pc := 9) O 0 dX4_keepAside_9 rfl rfl ?_
    refine E_getR (pc := 10) O FL_RailSequenceModel_22 dX4_keepAside_10 hf (fun v1 hf => ?_)
    refine E_iload_n (pc := 13) O 1 dX4_keepAside_13 rfl rfl ?_
    refine E_aload_n (pc := 14) O 0 dX4_keepAside_14 rfl rfl ?_
    refine E_getR (pc := 15) O FL_RailSequenceModel_7 dX4_keepAside_15 hf (fun v2 hf => ?_)
    refine E_iload_n (pc := 18) O 1 dX4_keepAside_18 rfl rfl ?_
    refine E_iaload (pc := 19) O dX4_keepAside_19 hf (fun v3 hf => ?_)
    refine E_iastore (pc := 20) O dX4_keepAside_20 hf (fun h4 hf => ?_)
    refine E_iinc (pc := 21) O (1 : Int32) [some (.ref x0), some (.int (x1 + (1 : Int32)))] dX4_keepAside_21 rfl (by decide) rfl (by decide) rfl ?_
    refine E_goto (pc := 24) O 2 dX4_keepAside_24 (by decide) ?_
    exact hr2 h4 x0 (x1 + (1 : Int32)) hf
theorem t_f_X4_keepAside_2 {K : Cx} {fr : Bool} {out : MH} (O : Ok K yX4_keepAside.cls cX4_keepAside 2 (rmm 0 0 0 0)) (Z : Out K none fr none out) : ∀ (n : Nat) (h : MH) (x0 : Nat) (x1 : Int32), f_X4_keepAside_2 n h x0 x1 = some out → EE K (fr, 0, 0) 2 [some (.ref x0), some (.int x1)] [] h := by
  intro n
  induction n with
  | zero => intro h x0 x1 hf; cases hf
  | succ n ih => intro h x0 x1 hf; exact t_b_X4_keepAside_2 O Z _ ih h x0 x1 hf
set_option maxHeartbeats 4000000 in
set_option maxRecDepth 100000 in
theorem t_X4_keepAside {g : Gx} {fr : Bool} {h : MH} {x0} {out : MH} (hf : f_X4_keepAside h x0 = some out) : MM g yX4_keepAside cX4_keepAside 2 none 0 0 0 0 fr fr [.ref x0] h none out := by
  unfold f_X4_keepAside at hf
  refine MM_of (L := [some (.ref x0), none]) (by decide) (Nat.le_of_ble_eq_true rfl) rfl (fun K hK O Z hn => ?_)
  refine E_iconst (pc := 0) O (0 : Int32) dX4_keepAside_0 (by decide) ?_
  refine E_istore_n (pc := 1) O 1 [some (.ref x0), some (.int (0 : Int32))] dX4_keepAside_1 rfl (by decide) rfl rfl ?_
  exact t_f_X4_keepAside_2 O Z FU h x0 (0 : Int32) hf
set_option maxHeartbeats 4000000 in
set_option maxRecDepth 100000 in
theorem t_b_X4_takeBack_2 {K : Cx} {fr : Bool} {out : MH} (O : Ok K yX4_takeBack.cls cX4_takeBack 2 (rmm 0 0 0 0)) (Z : Out K none fr none out) (rec2 : MH → Nat → Int32 → Option MH) (hr2 : ∀ (h : MH) (x0 : Nat) (x1 : Int32), rec2 h x0 x1 = some out → EE K (fr, 0, 0) 2 [some (.ref x0), some (.int x1)] [] h) (h : MH) (x0 : Nat) (x1 : Int32) (hf : b_X4_takeBack_2 rec2 h x0 x1 = some out) : EE K (fr, 0, 0) 2 [some (.ref x0), some (.int x1)] [] h := by
  unfold b_X4_takeBack_2 at hf
  refine E_iload_n (pc := 2) O 1 dX4_takeBack_2 rfl rfl ?_
  refine E_sipush (pc := 3) O (228 : Int32) dX4_takeBack_3 (by decide) ?_
  refine E_icmp_ge (pc := 6) O 27 dX4_takeBack_6 (by decide) hf (fun hf => ?_) (fun hf => ?_)
  · exact E_vret (pc := 27) O Z hf ⟨(Nat.le_of_ble_eq_true rfl), (Nat.le_of_ble_eq_true rfl)⟩ dX4_takeBack_27
  · refine E_aload_n (pc := 9) O 0 dX4_takeBack_9 rfl rfl ?_
    refine E_getR (pc := 10) O FL_RailSequenceModel_7 dX4_takeBack_10 hf (fun v1 hf => ?_)
    refine E_iload_n (pc := 13) O 1 dX4_takeBack_13 rfl rfl ?_
    refine E_aload_n (pc := 14) O 0 dX4_takeBack_14 rfl rfl ?_
    refine E_getR (pc := 15) O FL_RailSequenceModel_22 dX4_takeBack_15 hf (fun v2 hf => ?_)
    refine E_iload_n (pc := 18) O 1 dX4_takeBack_18 rfl rfl ?_
    refine E_iaload (pc := 19) O dX4_takeBack_19 hf (fun v3 hf => ?_)
    refine E_iastore (pc := 20) O dX4_takeBack_20 hf (fun h4 hf => ?_)
    refine E_iinc (pc := 21) O (1 : Int32) [some (.ref x0), some (.int (x1 + (1 : Int32)))] dX4_takeBack_21 rfl (by decide) rfl (by decide) rfl ?_
    refine E_goto (pc := 24) O 2 dX4_takeBack_24 (by decide) ?_
    exact hr2 h4 x0 (x1 + (1 : Int32)) hf
theorem t_f_X4_takeBack_2 {K : Cx} {fr : Bool} {out : MH} (O : Ok K yX4_takeBack.cls cX4_takeBack 2 (rmm 0 0 0 0)) (Z : Out K none fr none out) : ∀ (n : Nat) (h : MH) (x0 : Nat) (x1 : Int32), f_X4_takeBack_2 n h x0 x1 = some out → EE K (fr, 0, 0) 2 [some (.ref x0), some (.int x1)] [] h := by
  intro n
  induction n with
  | zero => intro h x0 x1 hf; cases hf
  | succ n ih => intro h x0 x1 hf; exact t_b_X4_takeBack_2 O Z _ ih h x0 x1 hf
set_option maxHeartbeats 4000000 in
set_option maxRecDepth 100000 in
theorem t_X4_takeBack {g : Gx} {fr : Bool} {h : MH} {x0} {out : MH} (hf : f_X4_takeBack h x0 = some out) : MM g yX4_takeBack cX4_takeBack 2 none 0 0 0 0 fr fr [.ref x0] h none out := by
  unfold f_X4_takeBack at hf
  refine MM_of (L := [some (.ref x0), none]) (by decide) (Nat.le_of_ble_eq_true rfl) rfl (fun K hK O Z hn => ?_)
  refine E_iconst (pc := 0) O (0 : Int32) dX4_takeBack_0 (by decide) ?_
  refine E_istore_n (pc := 1) O 1 [some (.ref x0), some (.int (0 : Int32))] dX4_takeBack_1 rfl (by decide) rfl rfl ?_
  exact t_f_X4_takeBack_2 O Z FU h x0 (0 : Int32) hf
set_option maxHeartbeats 4000000 in
set_option maxRecDepth 100000 in
theorem t_X4_isValue {g : Gx} {fr : Bool} {h : MH} {x0 x1} {out : Int32} (hf : f_X4_isValue h x0 x1 = some out) : MM g yX4_isValue cX4_isValue 2 (some .boolean) 1 22 0 0 fr fr [.int x0, .int x1] h (some (.int out)) h := by
  unfold f_X4_isValue at hf
  refine MM_of (L := [some (.int x0), some (.int x1)]) (by decide) (Nat.le_of_ble_eq_true rfl) rfl (fun K hK O Z hn => ?_)
  refine E_iload_n (pc := 0) O 0 dX4_isValue_0 rfl rfl ?_
  refine E_ite hf (fun c1 hf => ?_) (fun n1_0 hf => ?_)
  · refine E_tswIn (pc := 1) (off := 39) O 0 40 c1 dX4_isValue_1 (by decide) (by decide) (by decide) (by decide) ?_
    refine E_iload_n (pc := 40) O 1 dX4_isValue_40 rfl rfl ?_
    refine E_bipush (pc := 41) O (100 : Int32) dX4_isValue_41 (by decide) ?_
    refine E_sipush (pc := 43) O (5000 : Int32) dX4_isValue_43 (by decide) ?_
    refine E_callS_iP (pc := 46) (S := []) O [.int x1, .int (100 : Int32), .int (5000 : Int32)] CS_RailSequenceModel_32 (fun r e => t_X4_within e) dX4_isValue_46 hf rfl ⟨(Nat.le_of_ble_eq_true rfl), (Nat.le_of_ble_eq_true rfl)⟩ ⟨(Nat.le_of_ble_eq_true rfl), (Nat.le_of_ble_eq_true rfl)⟩ (Nat.le_of_ble_eq_true rfl) (fun v1 hf => ?_)
    exact E_zretP (pc := 49) O Z hf ⟨(Nat.le_of_ble_eq_true rfl), (Nat.le_of_ble_eq_true rfl)⟩ dX4_isValue_49
  · refine E_ite hf (fun c1 hf => ?_) (fun n1_1 hf => ?_)
    · refine E_tswIn (pc := 1) (off := 49) O 1 50 c1 dX4_isValue_1 (by decide) (by decide) (by decide) (by decide) ?_
      refine E_iload_n (pc := 50) O 1 dX4_isValue_50 rfl rfl ?_
      refine E_iconst (pc := 51) O (1 : Int32) dX4_isValue_51 (by decide) ?_
      refine E_sipush (pc := 52) O (1000 : Int32) dX4_isValue_52 (by decide) ?_
      refine E_callS_iP (pc := 55) (S := []) O [.int x1, .int (1 : Int32), .int (1000 : Int32)] CS_RailSequenceModel_32 (fun r e => t_X4_within e) dX4_isValue_55 hf rfl ⟨(Nat.le_of_ble_eq_true rfl), (Nat.le_of_ble_eq_true rfl)⟩ ⟨(Nat.le_of_ble_eq_true rfl), (Nat.le_of_ble_eq_true rfl)⟩ (Nat.le_of_ble_eq_true rfl) (fun v2 hf => ?_)
      exact E_zretP (pc := 58) O Z hf ⟨(Nat.le_of_ble_eq_true rfl), (Nat.le_of_ble_eq_true rfl)⟩ dX4_isValue_58
    · refine E_ite hf (fun c1 hf => ?_) (fun n1_2 hf => ?_)
      · refine E_tswIn (pc := 1) (off := 49) O 2 50 c1 dX4_isValue_1 (by decide) (by decide) (by decide) (by decide) ?_
        refine E_iload_n (pc := 50) O 1 dX4_isValue_50 rfl rfl ?_
        refine E_iconst (pc := 51) O (1 : Int32) dX4_isValue_51 (by decide) ?_
        refine E_sipush (pc := 52) O (1000 : Int32) dX4_isValue_52 (by decide) ?_
        refine E_callS_iP (pc := 55) (S := []) O [.int x1, .int (1 : Int32), .int (1000 : Int32)] CS_RailSequenceModel_32 (fun r e => t_X4_within e) dX4_isValue_55 hf rfl ⟨(Nat.le_of_ble_eq_true rfl), (Nat.le_of_ble_eq_true rfl)⟩ ⟨(Nat.le_of_ble_eq_true rfl), (Nat.le_of_ble_eq_true rfl)⟩ (Nat.le_of_ble_eq_true rfl) (fun v3 hf => ?_)
        exact E_zretP (pc := 58) O Z hf ⟨(Nat.le_of_ble_eq_true rfl), (Nat.le_of_ble_eq_true rfl)⟩ dX4_isValue_58
      · refine E_ite hf (fun c1 hf => ?_) (fun n1_3 hf => ?_)
        · refine E_tswIn (pc := 1) (off := 58) O 3 59 c1 dX4_isValue_1 (by decide) (by decide) (by decide) (by decide) ?_
          refine E_iload_n (pc := 59) O 1 dX4_isValue_59 rfl rfl ?_
          refine E_bipush (pc := 60) O (50 : Int32) dX4_isValue_60 (by decide) ?_
          refine E_bipush (pc := 62) O (100 : Int32) dX4_isValue_62 (by decide) ?_
          refine E_callS_iP (pc := 64) (S := []) O [.int x1, .int (50 : Int32), .int (100 : Int32)] CS_RailSequenceModel_32 (fun r e => t_X4_within e) dX4_isValue_64 hf rfl ⟨(Nat.le_of_ble_eq_true rfl), (Nat.le_of_ble_eq_true rfl)⟩ ⟨(Nat.le_of_ble_eq_true rfl), (Nat.le_of_ble_eq_true rfl)⟩ (Nat.le_of_ble_eq_true rfl) (fun v4 hf => ?_)
          exact E_zretP (pc := 67) O Z hf ⟨(Nat.le_of_ble_eq_true rfl), (Nat.le_of_ble_eq_true rfl)⟩ dX4_isValue_67
        · refine E_ite hf (fun c1 hf => ?_) (fun n1_4 hf => ?_)
          · refine E_tswIn (pc := 1) (off := 67) O 4 68 c1 dX4_isValue_1 (by decide) (by decide) (by decide) (by decide) ?_
            refine E_iload_n (pc := 68) O 1 dX4_isValue_68 rfl rfl ?_
            refine E_iconst (pc := 69) O (0 : Int32) dX4_isValue_69 (by decide) ?_
            refine E_bipush (pc := 70) O (50 : Int32) dX4_isValue_70 (by decide) ?_
            refine E_callS_iP (pc := 72) (S := []) O [.int x1, .int (0 : Int32), .int (50 : Int32)] CS_RailSequenceModel_32 (fun r e => t_X4_within e) dX4_isValue_72 hf rfl ⟨(Nat.le_of_ble_eq_true rfl), (Nat.le_of_ble_eq_true rfl)⟩ ⟨(Nat.le_of_ble_eq_true rfl), (Nat.le_of_ble_eq_true rfl)⟩ (Nat.le_of_ble_eq_true rfl) (fun v5 hf => ?_)
            exact E_zretP (pc := 75) O Z hf ⟨(Nat.le_of_ble_eq_true rfl), (Nat.le_of_ble_eq_true rfl)⟩ dX4_isValue_75
          · refine E_ite hf (fun c1 hf => ?_) (fun n1_5 hf => ?_)
            · refine E_tswIn (pc := 1) (off := 75) O 5 76 c1 dX4_isValue_1 (by decide) (by decide) (by decide) (by decide) ?_
              refine E_iload_n (pc := 76) O 1 dX4_isValue_76 rfl rfl ?_
              refine E_iconst (pc := 77) O (1 : Int32) dX4_isValue_77 (by decide) ?_
              refine E_sipush (pc := 78) O (200 : Int32) dX4_isValue_78 (by decide) ?_
              refine E_callS_iP (pc := 81) (S := []) O [.int x1, .int (1 : Int32), .int (200 : Int32)] CS_RailSequenceModel_32 (fun r e => t_X4_within e) dX4_isValue_81 hf rfl ⟨(Nat.le_of_ble_eq_true rfl), (Nat.le_of_ble_eq_true rfl)⟩ ⟨(Nat.le_of_ble_eq_true rfl), (Nat.le_of_ble_eq_true rfl)⟩ (Nat.le_of_ble_eq_true rfl) (fun v6 hf => ?_)
              exact E_zretP (pc := 84) O Z hf ⟨(Nat.le_of_ble_eq_true rfl), (Nat.le_of_ble_eq_true rfl)⟩ dX4_isValue_84
            · refine E_tswOut (pc := 1) O 85 dX4_isValue_1 (by have z := tsw_out 0 6 (by decide) (lt_s (lt_s (lt_s (lt_s (lt_s (lt_s lt_0 n1_0) n1_1) n1_2) n1_3) n1_4) n1_5); omega) (by decide) ?_
              refine E_iload_n (pc := 85) O 1 dX4_isValue_85 rfl rfl ?_
              refine E_iconst (pc := 86) O (1 : Int32) dX4_isValue_86 (by decide) ?_
              refine E_iconst (pc := 87) O (4 : Int32) dX4_isValue_87 (by decide) ?_
              refine E_callS_iP (pc := 88) (S := []) O [.int x1, .int (1 : Int32), .int (4 : Int32)] CS_RailSequenceModel_32 (fun r e => t_X4_within e) dX4_isValue_88 hf rfl ⟨(Nat.le_of_ble_eq_true rfl), (Nat.le_of_ble_eq_true rfl)⟩ ⟨(Nat.le_of_ble_eq_true rfl), (Nat.le_of_ble_eq_true rfl)⟩ (Nat.le_of_ble_eq_true rfl) (fun v7 hf => ?_)
              exact E_zretP (pc := 91) O Z hf ⟨(Nat.le_of_ble_eq_true rfl), (Nat.le_of_ble_eq_true rfl)⟩ dX4_isValue_91
set_option maxHeartbeats 4000000 in
set_option maxRecDepth 100000 in
theorem t_b_X4_bring_11 {K : Cx} {fr : Bool} {out : MH} (O : Ok K yX4_bring.cls cX4_bring 7 (rmm 1 23 0 0)) (Z : Out K none fr none out) (rec11 : MH → Nat → Int32 → Int32 → Int32 → Int32 → Int32 → Int32 → Option MH) (hr11 : ∀ (h : MH) (x0 : Nat) (x1 : Int32) (x2 : Int32) (x3 : Int32) (x4 : Int32) (x5 : Int32) (x6 : Int32), rec11 h x0 x1 x2 x3 x4 x5 x6 = some out → EE K (fr, 0, 0) 11 [some (.ref x0), some (.int x1), some (.int x2), some (.int x3), some (.int x4), some (.int x5), some (.int x6)] [] h) (h : MH) (x0 : Nat) (x1 : Int32) (x2 : Int32) (x3 : Int32) (x4 : Int32) (x5 : Int32) (x6 : Int32) (hf : b_X4_bring_11 rec11 h x0 x1 x2 x3 x4 x5 x6 = some out) : EE K (fr, 0, 0) 11 [some (.ref x0), some (.int x1), some (.int x2), some (.int x3), some (.int x4), some (.int x5), some (.int x6)] [] h := by
  unfold b_X4_bring_11 at hf
  refine E_iload (pc := 11) O dX4_bring_11 rfl ?_
  refine E_bipush (pc := 13) O (20 : Int32) dX4_bring_13 (by decide) ?_
  refine E_icmp_ge (pc := 15) O 33 dX4_bring_15 (by decide) hf (fun hf => ?_) (fun hf => ?_)
  · refine E_aload_n (pc := 33) O 0 dX4_bring_33 rfl rfl ?_
    refine E_iload (pc := 34) O dX4_bring_34 rfl ?_
    refine E_iconst (pc := 36) O (0 : Int32) dX4_bring_36 (by decide) ?_
    refine E_iload_n (pc := 37) O 1 dX4_bring_37 rfl rfl ?_
    refine E_callV_v (pc := 38) (S := []) O [.int x5, .int (0 : Int32), .int x1] CV_RailSequenceModel_40 rfl (fun r e => t_X4_lay e) dX4_bring_38 hf rfl ⟨(Nat.le_of_ble_eq_true rfl), (Nat.le_of_ble_eq_true rfl)⟩ ⟨(Nat.le_of_ble_eq_true rfl), (Nat.le_of_ble_eq_true rfl)⟩ (Nat.le_of_ble_eq_true rfl) (fun h1 hf => ?_)
    refine E_aload_n (pc := 41) O 0 dX4_bring_41 rfl rfl ?_
    refine E_iload (pc := 42) O dX4_bring_42 rfl ?_
    refine E_iconst (pc := 44) O (1 : Int32) dX4_bring_44 (by decide) ?_
    refine E_iload_n (pc := 45) O 2 dX4_bring_45 rfl rfl ?_
    refine E_callV_v (pc := 46) (S := []) O [.int x5, .int (1 : Int32), .int x2] CV_RailSequenceModel_40 rfl (fun r e => t_X4_lay e) dX4_bring_46 hf rfl ⟨(Nat.le_of_ble_eq_true rfl), (Nat.le_of_ble_eq_true rfl)⟩ ⟨(Nat.le_of_ble_eq_true rfl), (Nat.le_of_ble_eq_true rfl)⟩ (Nat.le_of_ble_eq_true rfl) (fun h2 hf => ?_)
    refine E_aload_n (pc := 49) O 0 dX4_bring_49 rfl rfl ?_
    refine E_iload (pc := 50) O dX4_bring_50 rfl ?_
    refine E_iconst (pc := 52) O (2 : Int32) dX4_bring_52 (by decide) ?_
    refine E_iload_n (pc := 53) O 3 dX4_bring_53 rfl rfl ?_
    refine E_callV_v (pc := 54) (S := []) O [.int x5, .int (2 : Int32), .int x3] CV_RailSequenceModel_40 rfl (fun r e => t_X4_lay e) dX4_bring_54 hf rfl ⟨(Nat.le_of_ble_eq_true rfl), (Nat.le_of_ble_eq_true rfl)⟩ ⟨(Nat.le_of_ble_eq_true rfl), (Nat.le_of_ble_eq_true rfl)⟩ (Nat.le_of_ble_eq_true rfl) (fun h3 hf => ?_)
    refine E_aload_n (pc := 57) O 0 dX4_bring_57 rfl rfl ?_
    refine E_iload (pc := 58) O dX4_bring_58 rfl ?_
    refine E_iconst (pc := 60) O (3 : Int32) dX4_bring_60 (by decide) ?_
    refine E_bipush (pc := 61) O (90 : Int32) dX4_bring_61 (by decide) ?_
    refine E_callV_v (pc := 63) (S := []) O [.int x5, .int (3 : Int32), .int (90 : Int32)] CV_RailSequenceModel_40 rfl (fun r e => t_X4_lay e) dX4_bring_63 hf rfl ⟨(Nat.le_of_ble_eq_true rfl), (Nat.le_of_ble_eq_true rfl)⟩ ⟨(Nat.le_of_ble_eq_true rfl), (Nat.le_of_ble_eq_true rfl)⟩ (Nat.le_of_ble_eq_true rfl) (fun h4 hf => ?_)
    refine E_aload_n (pc := 66) O 0 dX4_bring_66 rfl rfl ?_
    refine E_iload (pc := 67) O dX4_bring_67 rfl ?_
    refine E_iconst (pc := 69) O (4 : Int32) dX4_bring_69 (by decide) ?_
    refine E_iconst (pc := 70) O (2 : Int32) dX4_bring_70 (by decide) ?_
    refine E_callV_v (pc := 71) (S := []) O [.int x5, .int (4 : Int32), .int (2 : Int32)] CV_RailSequenceModel_40 rfl (fun r e => t_X4_lay e) dX4_bring_71 hf rfl ⟨(Nat.le_of_ble_eq_true rfl), (Nat.le_of_ble_eq_true rfl)⟩ ⟨(Nat.le_of_ble_eq_true rfl), (Nat.le_of_ble_eq_true rfl)⟩ (Nat.le_of_ble_eq_true rfl) (fun h5 hf => ?_)
    refine E_aload_n (pc := 74) O 0 dX4_bring_74 rfl rfl ?_
    refine E_iload (pc := 75) O dX4_bring_75 rfl ?_
    refine E_iconst (pc := 77) O (5 : Int32) dX4_bring_77 (by decide) ?_
    refine E_bipush (pc := 78) O (40 : Int32) dX4_bring_78 (by decide) ?_
    refine E_callV_v (pc := 80) (S := []) O [.int x5, .int (5 : Int32), .int (40 : Int32)] CV_RailSequenceModel_40 rfl (fun r e => t_X4_lay e) dX4_bring_80 hf rfl ⟨(Nat.le_of_ble_eq_true rfl), (Nat.le_of_ble_eq_true rfl)⟩ ⟨(Nat.le_of_ble_eq_true rfl), (Nat.le_of_ble_eq_true rfl)⟩ (Nat.le_of_ble_eq_true rfl) (fun h6 hf => ?_)
    refine E_aload_n (pc := 83) O 0 dX4_bring_83 rfl rfl ?_
    refine E_iload (pc := 84) O dX4_bring_84 rfl ?_
    refine E_bipush (pc := 86) O (6 : Int32) dX4_bring_86 (by decide) ?_
    refine E_iconst (pc := 88) O (2 : Int32) dX4_bring_88 (by decide) ?_
    refine E_callV_v (pc := 89) (S := []) O [.int x5, .int (6 : Int32), .int (2 : Int32)] CV_RailSequenceModel_40 rfl (fun r e => t_X4_lay e) dX4_bring_89 hf rfl ⟨(Nat.le_of_ble_eq_true rfl), (Nat.le_of_ble_eq_true rfl)⟩ ⟨(Nat.le_of_ble_eq_true rfl), (Nat.le_of_ble_eq_true rfl)⟩ (Nat.le_of_ble_eq_true rfl) (fun h7 hf => ?_)
    refine E_aload_n (pc := 92) O 0 dX4_bring_92 rfl rfl ?_
    refine E_iload (pc := 93) O dX4_bring_93 rfl ?_
    refine E_bipush (pc := 95) O (7 : Int32) dX4_bring_95 (by decide) ?_
    refine E_iload (pc := 97) O dX4_bring_97 rfl ?_
    refine E_callV_v (pc := 99) (S := []) O [.int x5, .int (7 : Int32), .int x4] CV_RailSequenceModel_40 rfl (fun r e => t_X4_lay e) dX4_bring_99 hf rfl ⟨(Nat.le_of_ble_eq_true rfl), (Nat.le_of_ble_eq_true rfl)⟩ ⟨(Nat.le_of_ble_eq_true rfl), (Nat.le_of_ble_eq_true rfl)⟩ (Nat.le_of_ble_eq_true rfl) (fun h8 hf => ?_)
    refine E_aload_n (pc := 102) O 0 dX4_bring_102 rfl rfl ?_
    refine E_iload (pc := 103) O dX4_bring_103 rfl ?_
    refine E_bipush (pc := 105) O (15 : Int32) dX4_bring_105 (by decide) ?_
    refine E_iconst (pc := 107) O (-1 : Int32) dX4_bring_107 (by decide) ?_
    refine E_callV_v (pc := 108) (S := []) O [.int x5, .int (15 : Int32), .int (-1 : Int32)] CV_RailSequenceModel_40 rfl (fun r e => t_X4_lay e) dX4_bring_108 hf rfl ⟨(Nat.le_of_ble_eq_true rfl), (Nat.le_of_ble_eq_true rfl)⟩ ⟨(Nat.le_of_ble_eq_true rfl), (Nat.le_of_ble_eq_true rfl)⟩ (Nat.le_of_ble_eq_true rfl) (fun h9 hf => ?_)
    refine E_aload_n (pc := 111) O 0 dX4_bring_111 rfl rfl ?_
    refine E_getR (pc := 112) O FL_RailSequenceModel_7 dX4_bring_112 hf (fun v10 hf => ?_)
    refine E_iconst (pc := 115) O (0 : Int32) dX4_bring_115 (by decide) ?_
    refine E_dup2 (pc := 116) O dX4_bring_116 rfl rfl ?_
    refine E_iaload (pc := 117) O dX4_bring_117 hf (fun v11 hf => ?_)
    refine E_iconst (pc := 118) O (1 : Int32) dX4_bring_118 (by decide) ?_
    refine E_iadd (pc := 119) O dX4_bring_119 ?_
    refine E_iastore (pc := 120) O dX4_bring_120 hf (fun h12 hf => ?_)
    exact E_vret (pc := 121) O Z hf ⟨(Nat.le_of_ble_eq_true rfl), (Nat.le_of_ble_eq_true rfl)⟩ dX4_bring_121
  · refine E_aload_n (pc := 18) O 0 dX4_bring_18 rfl rfl ?_
    refine E_iload (pc := 19) O dX4_bring_19 rfl ?_
    refine E_iload (pc := 21) O dX4_bring_21 rfl ?_
    refine E_iconst (pc := 23) O (0 : Int32) dX4_bring_23 (by decide) ?_
    refine E_callV_v (pc := 24) (S := []) O [.int x5, .int x6, .int (0 : Int32)] CV_RailSequenceModel_40 rfl (fun r e => t_X4_lay e) dX4_bring_24 hf rfl ⟨(Nat.le_of_ble_eq_true rfl), (Nat.le_of_ble_eq_true rfl)⟩ ⟨(Nat.le_of_ble_eq_true rfl), (Nat.le_of_ble_eq_true rfl)⟩ (Nat.le_of_ble_eq_true rfl) (fun h13 hf => ?_)
    refine E_iinc (pc := 27) O (1 : Int32) [some (.ref x0), some (.int x1), some (.int x2), some (.int x3), some (.int x4), some (.int x5), some (.int (x6 + (1 : Int32)))] dX4_bring_27 rfl (by decide) rfl (by decide) rfl ?_
    refine E_goto (pc := 30) O 11 dX4_bring_30 (by decide) ?_
    exact hr11 h13 x0 x1 x2 x3 x4 x5 (x6 + (1 : Int32)) hf
theorem t_f_X4_bring_11 {K : Cx} {fr : Bool} {out : MH} (O : Ok K yX4_bring.cls cX4_bring 7 (rmm 1 23 0 0)) (Z : Out K none fr none out) : ∀ (n : Nat) (h : MH) (x0 : Nat) (x1 : Int32) (x2 : Int32) (x3 : Int32) (x4 : Int32) (x5 : Int32) (x6 : Int32), f_X4_bring_11 n h x0 x1 x2 x3 x4 x5 x6 = some out → EE K (fr, 0, 0) 11 [some (.ref x0), some (.int x1), some (.int x2), some (.int x3), some (.int x4), some (.int x5), some (.int x6)] [] h := by
  intro n
  induction n with
  | zero => intro h x0 x1 x2 x3 x4 x5 x6 hf; cases hf
  | succ n ih => intro h x0 x1 x2 x3 x4 x5 x6 hf; exact t_b_X4_bring_11 O Z _ ih h x0 x1 x2 x3 x4 x5 x6 hf
set_option maxHeartbeats 4000000 in
set_option maxRecDepth 100000 in
theorem t_X4_bring {g : Gx} {fr : Bool} {h : MH} {x0 x1 x2 x3 x4} {out : MH} (hf : f_X4_bring h x0 x1 x2 x3 x4 = some out) : MM g yX4_bring cX4_bring 7 none 1 23 0 0 fr fr [.ref x0, .int x1, .int x2, .int x3, .int x4] h none out := by
  unfold f_X4_bring at hf
  refine MM_of (L := [some (.ref x0), some (.int x1), some (.int x2), some (.int x3), some (.int x4), none, none]) (by decide) (Nat.le_of_ble_eq_true rfl) rfl (fun K hK O Z hn => ?_)
  refine E_aload_n (pc := 0) O 0 dX4_bring_0 rfl rfl ?_
  refine E_getR (pc := 1) O FL_RailSequenceModel_7 dX4_bring_1 hf (fun v14 hf => ?_)
  refine E_iconst (pc := 4) O (0 : Int32) dX4_bring_4 (by decide) ?_
  refine E_iaload (pc := 5) O dX4_bring_5 hf (fun v15 hf => ?_)
  refine E_istore (pc := 6) O [some (.ref x0), some (.int x1), some (.int x2), some (.int x3), some (.int x4), some (.int v15), none] dX4_bring_6 (by decide) rfl rfl ?_
  refine E_iconst (pc := 8) O (0 : Int32) dX4_bring_8 (by decide) ?_
  refine E_istore (pc := 9) O [some (.ref x0), some (.int x1), some (.int x2), some (.int x3), some (.int x4), some (.int v15), some (.int (0 : Int32))] dX4_bring_9 (by decide) rfl rfl ?_
  exact t_f_X4_bring_11 O Z FU h x0 x1 x2 x3 x4 v15 (0 : Int32) hf
set_option maxHeartbeats 4000000 in
set_option maxRecDepth 100000 in
theorem t_b_X4_addRail_72 {K : Cx} {fr : Bool} {out : (Int32 × MH)} (O : Ok K yX4_addRail.cls cX4_addRail 6 (rmm 2 49 0 0)) (Z : Out K (some .int) fr (some (.int out.1)) out.2) (h : MH) (x0 : Nat) (x1 : Int32) (x2 : Int32) (x3 : Int32) (x4 : Int32) (s0 : Nat) (s1 : Int32) (hf : b_X4_addRail_72 h x0 x1 x2 x3 x4 s0 s1 = some out) : EE K (fr, 0, 0) 72 [some (.ref x0), some (.int x1), some (.int x2), some (.int x3), some (.int x4), none] [.int s1, .ref s0] h := by
  unfold b_X4_addRail_72 at hf
  refine E_put (pc := 72) O FN_RailSequenceModel_28 rfl rfl dX4_addRail_72 hf (fun h1 hf => ?_)
  refine E_aload_n (pc := 75) O 0 dX4_addRail_75 rfl rfl ?_
  refine E_getI (pc := 76) O FL_RailSequenceModel_28 dX4_addRail_76 hf (fun v2 hf => ?_)
  refine E_if_le (pc := 79) O 84 dX4_addRail_79 (by decide) hf (fun hf => ?_) (fun hf => ?_)
  · refine E_aload_n (pc := 84) O 0 dX4_addRail_84 rfl rfl ?_
    refine E_callV_v (pc := 85) (S := []) O [] CV_RailSequenceModel_110 rfl (fun r e => t_X4_save e) dX4_addRail_85 hf rfl ⟨(Nat.le_of_ble_eq_true rfl), (Nat.le_of_ble_eq_true rfl)⟩ ⟨(Nat.le_of_ble_eq_true rfl), (Nat.le_of_ble_eq_true rfl)⟩ (Nat.le_of_ble_eq_true rfl) (fun h3 hf => ?_)
    refine E_aload_n (pc := 88) O 0 dX4_addRail_88 rfl rfl ?_
    refine E_iload_n (pc := 89) O 1 dX4_addRail_89 rfl rfl ?_
    refine E_iload_n (pc := 90) O 2 dX4_addRail_90 rfl rfl ?_
    refine E_iload_n (pc := 91) O 3 dX4_addRail_91 rfl rfl ?_
    refine E_iload (pc := 92) O dX4_addRail_92 rfl ?_
    refine E_callV_v (pc := 94) (S := []) O [.int x1, .int x2, .int x3, .int x4] CV_RailSequenceModel_113 rfl (fun r e => t_X4_bring e) dX4_addRail_94 hf rfl ⟨(Nat.le_of_ble_eq_true rfl), (Nat.le_of_ble_eq_true rfl)⟩ ⟨(Nat.le_of_ble_eq_true rfl), (Nat.le_of_ble_eq_true rfl)⟩ (Nat.le_of_ble_eq_true rfl) (fun h4 hf => ?_)
    refine E_aload_n (pc := 97) O 0 dX4_addRail_97 rfl rfl ?_
    refine E_getR (pc := 98) O FL_RailSequenceModel_7 dX4_addRail_98 hf (fun v5 hf => ?_)
    refine E_iconst (pc := 101) O (0 : Int32) dX4_addRail_101 (by decide) ?_
    refine E_iaload (pc := 102) O dX4_addRail_102 hf (fun v6 hf => ?_)
    refine E_iconst (pc := 103) O (1 : Int32) dX4_addRail_103 (by decide) ?_
    refine E_isub (pc := 104) O dX4_addRail_104 ?_
    exact E_iret (pc := 105) O Z hf ⟨(Nat.le_of_ble_eq_true rfl), (Nat.le_of_ble_eq_true rfl)⟩ dX4_addRail_105
  · refine E_iconst (pc := 82) O (0 : Int32) dX4_addRail_82 (by decide) ?_
    exact E_iret (pc := 83) O Z hf ⟨(Nat.le_of_ble_eq_true rfl), (Nat.le_of_ble_eq_true rfl)⟩ dX4_addRail_83
set_option maxHeartbeats 4000000 in
set_option maxRecDepth 100000 in
theorem t_b_X4_addRail_44 {K : Cx} {fr : Bool} {out : (Int32 × MH)} (O : Ok K yX4_addRail.cls cX4_addRail 6 (rmm 2 49 0 0)) (Z : Out K (some .int) fr (some (.int out.1)) out.2) (h : MH) (x0 : Nat) (x1 : Int32) (x2 : Int32) (x3 : Int32) (x4 : Int32) (s0 : Int32) (hf : b_X4_addRail_44 h x0 x1 x2 x3 x4 s0 = some out) : EE K (fr, 0, 0) 44 [some (.ref x0), some (.int x1), some (.int x2), some (.int x3), some (.int x4), none] [.int s0] h := by
  unfold b_X4_addRail_44 at hf
  refine E_istore (pc := 44) O [some (.ref x0), some (.int x1), some (.int x2), some (.int x3), some (.int x4), some (.int s0)] dX4_addRail_44 (by decide) rfl rfl ?_
  refine E_aload_n (pc := 46) O 0 dX4_addRail_46 rfl rfl ?_
  refine E_iload (pc := 47) O dX4_addRail_47 rfl ?_
  refine E_if_ne (pc := 49) O 56 dX4_addRail_49 (by decide) hf (fun hf => ?_) (fun hf => ?_)
  · refine E_aload_n (pc := 56) O 0 dX4_addRail_56 rfl rfl ?_
    refine E_getR (pc := 57) O FL_RailSequenceModel_7 dX4_addRail_57 hf (fun v7 hf => ?_)
    refine E_iconst (pc := 60) O (0 : Int32) dX4_addRail_60 (by decide) ?_
    refine E_iaload (pc := 61) O dX4_addRail_61 hf (fun v8 hf => ?_)
    refine E_bipush (pc := 62) O (8 : Int32) dX4_addRail_62 (by decide) ?_
    refine E_icmp_ne (pc := 64) O 71 dX4_addRail_64 (by decide) hf (fun hf => ?_) (fun hf => ?_)
    · refine E_iconst (pc := 71) O (0 : Int32) dX4_addRail_71 (by decide) ?_
      exact E_sub (L' := [some (.ref x0), some (.int x1), some (.int x2), some (.int x3), some (.int x4), none]) (And.intro rfl (And.intro rfl (And.intro rfl (And.intro rfl (And.intro rfl True.intro))))) (t_b_X4_addRail_72 O Z h x0 x1 x2 x3 x4 x0 (0 : Int32) hf)
    · refine E_iconst (pc := 67) O (2 : Int32) dX4_addRail_67 (by decide) ?_
      refine E_goto (pc := 68) O 72 dX4_addRail_68 (by decide) ?_
      exact E_sub (L' := [some (.ref x0), some (.int x1), some (.int x2), some (.int x3), some (.int x4), none]) (And.intro rfl (And.intro rfl (And.intro rfl (And.intro rfl (And.intro rfl True.intro))))) (t_b_X4_addRail_72 O Z h x0 x1 x2 x3 x4 x0 (2 : Int32) hf)
  · refine E_iconst (pc := 52) O (1 : Int32) dX4_addRail_52 (by decide) ?_
    refine E_goto (pc := 53) O 72 dX4_addRail_53 (by decide) ?_
    exact E_sub (L' := [some (.ref x0), some (.int x1), some (.int x2), some (.int x3), some (.int x4), none]) (And.intro rfl (And.intro rfl (And.intro rfl (And.intro rfl (And.intro rfl True.intro))))) (t_b_X4_addRail_72 O Z h x0 x1 x2 x3 x4 x0 (1 : Int32) hf)
set_option maxHeartbeats 4000000 in
set_option maxRecDepth 100000 in
theorem t_b_X4_addRail_43 {K : Cx} {fr : Bool} {out : (Int32 × MH)} (O : Ok K yX4_addRail.cls cX4_addRail 6 (rmm 2 49 0 0)) (Z : Out K (some .int) fr (some (.int out.1)) out.2) (h : MH) (x0 : Nat) (x1 : Int32) (x2 : Int32) (x3 : Int32) (x4 : Int32) (hf : b_X4_addRail_43 h x0 x1 x2 x3 x4 = some out) : EE K (fr, 0, 0) 43 [some (.ref x0), some (.int x1), some (.int x2), some (.int x3), some (.int x4), none] [] h := by
  unfold b_X4_addRail_43 at hf
  refine E_iconst (pc := 43) O (0 : Int32) dX4_addRail_43 (by decide) ?_
  exact t_b_X4_addRail_44 O Z h x0 x1 x2 x3 x4 (0 : Int32) hf
set_option maxHeartbeats 4000000 in
set_option maxRecDepth 100000 in
theorem t_X4_addRail {g : Gx} {fr : Bool} {h : MH} {x0 x1 x2 x3 x4} {out : (Int32 × MH)} (hf : f_X4_addRail h x0 x1 x2 x3 x4 = some out) : MM g yX4_addRail cX4_addRail 6 (some .int) 2 49 0 0 fr fr [.ref x0, .int x1, .int x2, .int x3, .int x4] h (some (.int out.1)) out.2 := by
  unfold f_X4_addRail at hf
  refine MM_of (L := [some (.ref x0), some (.int x1), some (.int x2), some (.int x3), some (.int x4), none]) (by decide) (Nat.le_of_ble_eq_true rfl) rfl (fun K hK O Z hn => ?_)
  refine E_iconst (pc := 0) O (0 : Int32) dX4_addRail_0 (by decide) ?_
  refine E_iload_n (pc := 1) O 1 dX4_addRail_1 rfl rfl ?_
  refine E_callS_iP (pc := 2) (S := []) O [.int (0 : Int32), .int x1] CS_RailSequenceModel_104 (fun r e => t_X4_isValue e) dX4_addRail_2 hf rfl ⟨(Nat.le_of_ble_eq_true rfl), (Nat.le_of_ble_eq_true rfl)⟩ ⟨(Nat.le_of_ble_eq_true rfl), (Nat.le_of_ble_eq_true rfl)⟩ (Nat.le_of_ble_eq_true rfl) (fun v9 hf => ?_)
  refine E_if_eq (pc := 5) O 43 dX4_addRail_5 (by decide) hf (fun hf => ?_) (fun hf => ?_)
  · exact t_b_X4_addRail_43 O Z h x0 x1 x2 x3 x4 hf
  · refine E_iconst (pc := 8) O (1 : Int32) dX4_addRail_8 (by decide) ?_
    refine E_iload_n (pc := 9) O 2 dX4_addRail_9 rfl rfl ?_
    refine E_callS_iP (pc := 10) (S := []) O [.int (1 : Int32), .int x2] CS_RailSequenceModel_104 (fun r e => t_X4_isValue e) dX4_addRail_10 hf rfl ⟨(Nat.le_of_ble_eq_true rfl), (Nat.le_of_ble_eq_true rfl)⟩ ⟨(Nat.le_of_ble_eq_true rfl), (Nat.le_of_ble_eq_true rfl)⟩ (Nat.le_of_ble_eq_true rfl) (fun v10 hf => ?_)
    refine E_if_eq (pc := 13) O 43 dX4_addRail_13 (by decide) hf (fun hf => ?_) (fun hf => ?_)
    · exact t_b_X4_addRail_43 O Z h x0 x1 x2 x3 x4 hf
    · refine E_iconst (pc := 16) O (2 : Int32) dX4_addRail_16 (by decide) ?_
      refine E_iload_n (pc := 17) O 3 dX4_addRail_17 rfl rfl ?_
      refine E_callS_iP (pc := 18) (S := []) O [.int (2 : Int32), .int x3] CS_RailSequenceModel_104 (fun r e => t_X4_isValue e) dX4_addRail_18 hf rfl ⟨(Nat.le_of_ble_eq_true rfl), (Nat.le_of_ble_eq_true rfl)⟩ ⟨(Nat.le_of_ble_eq_true rfl), (Nat.le_of_ble_eq_true rfl)⟩ (Nat.le_of_ble_eq_true rfl) (fun v11 hf => ?_)
      refine E_if_eq (pc := 21) O 43 dX4_addRail_21 (by decide) hf (fun hf => ?_) (fun hf => ?_)
      · exact t_b_X4_addRail_43 O Z h x0 x1 x2 x3 x4 hf
      · refine E_aload_n (pc := 24) O 0 dX4_addRail_24 rfl rfl ?_
        refine E_iload (pc := 25) O dX4_addRail_25 rfl ?_
        refine E_aload_n (pc := 27) O 0 dX4_addRail_27 rfl rfl ?_
        refine E_getR (pc := 28) O FL_RailSequenceModel_7 dX4_addRail_28 hf (fun v12 hf => ?_)
        refine E_iconst (pc := 31) O (0 : Int32) dX4_addRail_31 (by decide) ?_
        refine E_iaload (pc := 32) O dX4_addRail_32 hf (fun v13 hf => ?_)
        refine E_callV_iP (pc := 33) (S := []) O [.int x4, .int v13] CV_RailSequenceModel_107 rfl (fun r e => t_X4_isMask e) dX4_addRail_33 hf rfl ⟨(Nat.le_of_ble_eq_true rfl), (Nat.le_of_ble_eq_true rfl)⟩ ⟨(Nat.le_of_ble_eq_true rfl), (Nat.le_of_ble_eq_true rfl)⟩ (Nat.le_of_ble_eq_true rfl) (fun v14 hf => ?_)
        refine E_if_eq (pc := 36) O 43 dX4_addRail_36 (by decide) hf (fun hf => ?_) (fun hf => ?_)
        · exact t_b_X4_addRail_43 O Z h x0 x1 x2 x3 x4 hf
        · refine E_iconst (pc := 39) O (1 : Int32) dX4_addRail_39 (by decide) ?_
          refine E_goto (pc := 40) O 44 dX4_addRail_40 (by decide) ?_
          exact t_b_X4_addRail_44 O Z h x0 x1 x2 x3 x4 (1 : Int32) hf
set_option maxHeartbeats 4000000 in
set_option maxRecDepth 100000 in
theorem t_X4_replaced {g : Gx} {fr : Bool} {h : MH} {x0 x1 x2 x3} {out : (Int32 × MH)} (hf : f_X4_replaced h x0 x1 x2 x3 = some out) : MM g yX4_replaced cX4_replaced 5 (some .int) 1 23 0 0 fr fr [.ref x0, .int x1, .int x2, .int x3] h (some (.int out.1)) out.2 := by
  unfold f_X4_replaced at hf
  refine MM_of (L := [some (.ref x0), some (.int x1), some (.int x2), some (.int x3), none]) (by decide) (Nat.le_of_ble_eq_true rfl) rfl (fun K hK O Z hn => ?_)
  refine E_aload_n (pc := 0) O 0 dX4_replaced_0 rfl rfl ?_
  refine E_callV_v (pc := 1) (S := []) O [] CV_RailSequenceModel_110 rfl (fun r e => t_X4_save e) dX4_replaced_1 hf rfl ⟨(Nat.le_of_ble_eq_true rfl), (Nat.le_of_ble_eq_true rfl)⟩ ⟨(Nat.le_of_ble_eq_true rfl), (Nat.le_of_ble_eq_true rfl)⟩ (Nat.le_of_ble_eq_true rfl) (fun h1 hf => ?_)
  refine E_aload_n (pc := 4) O 0 dX4_replaced_4 rfl rfl ?_
  refine E_iload_n (pc := 5) O 1 dX4_replaced_5 rfl rfl ?_
  refine E_iload_n (pc := 6) O 2 dX4_replaced_6 rfl rfl ?_
  refine E_callV_iP (pc := 7) (S := []) O [.int x1, .int x2] CV_RailSequenceModel_36 rfl (fun r e => t_X4_of e) dX4_replaced_7 hf rfl ⟨(Nat.le_of_ble_eq_true rfl), (Nat.le_of_ble_eq_true rfl)⟩ ⟨(Nat.le_of_ble_eq_true rfl), (Nat.le_of_ble_eq_true rfl)⟩ (Nat.le_of_ble_eq_true rfl) (fun v2 hf => ?_)
  refine E_istore (pc := 10) O [some (.ref x0), some (.int x1), some (.int x2), some (.int x3), some (.int v2)] dX4_replaced_10 (by decide) rfl rfl ?_
  refine E_aload_n (pc := 12) O 0 dX4_replaced_12 rfl rfl ?_
  refine E_iload_n (pc := 13) O 1 dX4_replaced_13 rfl rfl ?_
  refine E_iload_n (pc := 14) O 2 dX4_replaced_14 rfl rfl ?_
  refine E_iload_n (pc := 15) O 3 dX4_replaced_15 rfl rfl ?_
  refine E_callV_v (pc := 16) (S := []) O [.int x1, .int x2, .int x3] CV_RailSequenceModel_40 rfl (fun r e => t_X4_lay e) dX4_replaced_16 hf rfl ⟨(Nat.le_of_ble_eq_true rfl), (Nat.le_of_ble_eq_true rfl)⟩ ⟨(Nat.le_of_ble_eq_true rfl), (Nat.le_of_ble_eq_true rfl)⟩ (Nat.le_of_ble_eq_true rfl) (fun h3 hf => ?_)
  refine E_iload (pc := 19) O dX4_replaced_19 rfl ?_
  exact E_iret (pc := 21) O Z hf ⟨(Nat.le_of_ble_eq_true rfl), (Nat.le_of_ble_eq_true rfl)⟩ dX4_replaced_21
