/-! walks: the machine does what the plain functions say: written by program -/
set_option maxHeartbeats 4000000 in
set_option maxRecDepth 100000 in
theorem t_X1_init {g : Gx} {h : MH} {x0} {out : MH} (hf : f_X1_init h x0 = some out) : MM g yX1_init cX1_init 1 none 2 80 15 242 true true [.ref x0] h none out := by
  unfold f_X1_init at hf
  refine MM_of (L := [some (.ref x0)]) (by decide) (Nat.le_of_ble_eq_true rfl) rfl (fun K hK O Z hn => ?_)
  refine E_aload_n (pc := 0) O 0 dX1_init_0 rfl rfl ?_
  refine E_objInit (pc := 1) O (aw1 26 (by decide +kernel) rfl) (aw1 19 (by decide +kernel) rfl) (aw1 20 (by decide +kernel) rfl) (Nat.le_of_ble_eq_true rfl) (Nat.le_of_ble_eq_true rfl) dX1_init_1 ?_
  refine E_aload_n (pc := 4) O 0 dX1_init_4 rfl rfl ?_
  refine E_bipush (pc := 5) O (100 : Int32) dX1_init_5 (by decide) ?_
  refine E_put (pc := 7) O FN_RailSequence_Plant_9 rfl rfl dX1_init_7 hf (fun h1 hf => ?_)
  refine E_aload_n (pc := 10) O 0 dX1_init_10 rfl rfl ?_
  refine E_bipush (pc := 11) O (56 : Int32) dX1_init_11 (by decide) ?_
  refine E_newaI (pc := 13) O (aw1 41 (by decide +kernel) rfl) dX1_init_13 (by decide) (by decide) (Nat.le_of_ble_eq_true rfl) hf ⟨(Nat.le_of_ble_eq_true rfl), (Nat.le_of_ble_eq_true rfl)⟩ (fun h2 hf => ?_)
  show EE K (true, 1, 56) _ _ _ _
  refine E_putF (pc := 15) O FF_RailSequence_Plant_15 hn rfl rfl dX1_init_15 hf (fun h3 hf => ?_)
  refine E_aload_n (pc := 18) O 0 dX1_init_18 rfl rfl ?_
  refine E_bipush (pc := 19) O (8 : Int32) dX1_init_19 (by decide) ?_
  refine E_newaI (pc := 21) O (aw1 41 (by decide +kernel) rfl) dX1_init_21 (by decide) (by decide) (Nat.le_of_ble_eq_true rfl) hf ⟨(Nat.le_of_ble_eq_true rfl), (Nat.le_of_ble_eq_true rfl)⟩ (fun h4 hf => ?_)
  show EE K (true, 2, 64) _ _ _ _
  refine E_putF (pc := 23) O FF_RailSequence_Plant_19 hn rfl rfl dX1_init_23 hf (fun h5 hf => ?_)
  refine E_aload_n (pc := 26) O 0 dX1_init_26 rfl rfl ?_
  refine E_bipush (pc := 27) O (8 : Int32) dX1_init_27 (by decide) ?_
  refine E_newaI (pc := 29) O (aw1 41 (by decide +kernel) rfl) dX1_init_29 (by decide) (by decide) (Nat.le_of_ble_eq_true rfl) hf ⟨(Nat.le_of_ble_eq_true rfl), (Nat.le_of_ble_eq_true rfl)⟩ (fun h6 hf => ?_)
  show EE K (true, 3, 72) _ _ _ _
  refine E_putF (pc := 31) O FF_RailSequence_Plant_22 hn rfl rfl dX1_init_31 hf (fun h7 hf => ?_)
  refine E_aload_n (pc := 34) O 0 dX1_init_34 rfl rfl ?_
  refine E_bipush (pc := 35) O (8 : Int32) dX1_init_35 (by decide) ?_
  refine E_newaI (pc := 37) O (aw1 41 (by decide +kernel) rfl) dX1_init_37 (by decide) (by decide) (Nat.le_of_ble_eq_true rfl) hf ⟨(Nat.le_of_ble_eq_true rfl), (Nat.le_of_ble_eq_true rfl)⟩ (fun h8 hf => ?_)
  show EE K (true, 4, 80) _ _ _ _
  refine E_putF (pc := 39) O FF_RailSequence_Plant_25 hn rfl rfl dX1_init_39 hf (fun h9 hf => ?_)
  refine E_aload_n (pc := 42) O 0 dX1_init_42 rfl rfl ?_
  refine E_bipush (pc := 43) O (8 : Int32) dX1_init_43 (by decide) ?_
  refine E_newaI (pc := 45) O (aw1 41 (by decide +kernel) rfl) dX1_init_45 (by decide) (by decide) (Nat.le_of_ble_eq_true rfl) hf ⟨(Nat.le_of_ble_eq_true rfl), (Nat.le_of_ble_eq_true rfl)⟩ (fun h10 hf => ?_)
  show EE K (true, 5, 88) _ _ _ _
  refine E_putF (pc := 47) O FF_RailSequence_Plant_28 hn rfl rfl dX1_init_47 hf (fun h11 hf => ?_)
  refine E_aload_n (pc := 50) O 0 dX1_init_50 rfl rfl ?_
  refine E_bipush (pc := 51) O (8 : Int32) dX1_init_51 (by decide) ?_
  refine E_newaI (pc := 53) O (aw1 41 (by decide +kernel) rfl) dX1_init_53 (by decide) (by decide) (Nat.le_of_ble_eq_true rfl) hf ⟨(Nat.le_of_ble_eq_true rfl), (Nat.le_of_ble_eq_true rfl)⟩ (fun h12 hf => ?_)
  show EE K (true, 6, 96) _ _ _ _
  refine E_putF (pc := 55) O FF_RailSequence_Plant_31 hn rfl rfl dX1_init_55 hf (fun h13 hf => ?_)
  refine E_aload_n (pc := 58) O 0 dX1_init_58 rfl rfl ?_
  refine E_bipush (pc := 59) O (8 : Int32) dX1_init_59 (by decide) ?_
  refine E_newaI (pc := 61) O (aw1 41 (by decide +kernel) rfl) dX1_init_61 (by decide) (by decide) (Nat.le_of_ble_eq_true rfl) hf ⟨(Nat.le_of_ble_eq_true rfl), (Nat.le_of_ble_eq_true rfl)⟩ (fun h14 hf => ?_)
  show EE K (true, 7, 104) _ _ _ _
  refine E_putF (pc := 63) O FF_RailSequence_Plant_34 hn rfl rfl dX1_init_63 hf (fun h15 hf => ?_)
  refine E_aload_n (pc := 66) O 0 dX1_init_66 rfl rfl ?_
  refine E_bipush (pc := 67) O (8 : Int32) dX1_init_67 (by decide) ?_
  refine E_newaI (pc := 69) O (aw1 41 (by decide +kernel) rfl) dX1_init_69 (by decide) (by decide) (Nat.le_of_ble_eq_true rfl) hf ⟨(Nat.le_of_ble_eq_true rfl), (Nat.le_of_ble_eq_true rfl)⟩ (fun h16 hf => ?_)
  show EE K (true, 8, 112) _ _ _ _
  refine E_putF (pc := 71) O FF_RailSequence_Plant_37 hn rfl rfl dX1_init_71 hf (fun h17 hf => ?_)
  refine E_aload_n (pc := 74) O 0 dX1_init_74 rfl rfl ?_
  refine E_bipush (pc := 75) O (8 : Int32) dX1_init_75 (by decide) ?_
  refine E_newaI (pc := 77) O (aw1 41 (by decide +kernel) rfl) dX1_init_77 (by decide) (by decide) (Nat.le_of_ble_eq_true rfl) hf ⟨(Nat.le_of_ble_eq_true rfl), (Nat.le_of_ble_eq_true rfl)⟩ (fun h18 hf => ?_)
  show EE K (true, 9, 120) _ _ _ _
  refine E_putF (pc := 79) O FF_RailSequence_Plant_40 hn rfl rfl dX1_init_79 hf (fun h19 hf => ?_)
  refine E_aload_n (pc := 82) O 0 dX1_init_82 rfl rfl ?_
  refine E_bipush (pc := 83) O (32 : Int32) dX1_init_83 (by decide) ?_
  refine E_newaI (pc := 85) O (aw1 41 (by decide +kernel) rfl) dX1_init_85 (by decide) (by decide) (Nat.le_of_ble_eq_true rfl) hf ⟨(Nat.le_of_ble_eq_true rfl), (Nat.le_of_ble_eq_true rfl)⟩ (fun h20 hf => ?_)
  show EE K (true, 10, 152) _ _ _ _
  refine E_putF (pc := 87) O FF_RailSequence_Plant_43 hn rfl rfl dX1_init_87 hf (fun h21 hf => ?_)
  refine E_aload_n (pc := 90) O 0 dX1_init_90 rfl rfl ?_
  refine E_new (pc := 91) O NW_RailSequence_Plant_46 dX1_init_91 hf ⟨(Nat.le_of_ble_eq_true rfl), (Nat.le_of_ble_eq_true rfl)⟩ (fun h22 hf => ?_)
  show EE K (true, 11, 154) _ _ _ _
  refine E_dup (pc := 94) O dX1_init_94 rfl ?_
  refine E_callIN (pc := 95) O CN_RailSequence_Plant_48 (fun r e => t_X0_init e) dX1_init_95 hf ⟨(Nat.le_of_ble_eq_true rfl), (Nat.le_of_ble_eq_true rfl)⟩ ⟨(Nat.le_of_ble_eq_true rfl), (Nat.le_of_ble_eq_true rfl)⟩ (Nat.le_of_ble_eq_true rfl) (fun h23 hf => ?_)
  show EE K (true, 12, 218) _ _ _ _
  refine E_putF (pc := 98) O FF_RailSequence_Plant_49 hn rfl rfl dX1_init_98 hf (fun h24 hf => ?_)
  refine E_aload_n (pc := 101) O 0 dX1_init_101 rfl rfl ?_
  refine E_bipush (pc := 102) O (8 : Int32) dX1_init_102 (by decide) ?_
  refine E_newaI (pc := 104) O (aw1 41 (by decide +kernel) rfl) dX1_init_104 (by decide) (by decide) (Nat.le_of_ble_eq_true rfl) hf ⟨(Nat.le_of_ble_eq_true rfl), (Nat.le_of_ble_eq_true rfl)⟩ (fun h25 hf => ?_)
  show EE K (true, 13, 226) _ _ _ _
  refine E_putF (pc := 106) O FF_RailSequence_Plant_53 hn rfl rfl dX1_init_106 hf (fun h26 hf => ?_)
  refine E_aload_n (pc := 109) O 0 dX1_init_109 rfl rfl ?_
  refine E_bipush (pc := 110) O (8 : Int32) dX1_init_110 (by decide) ?_
  refine E_newaI (pc := 112) O (aw1 41 (by decide +kernel) rfl) dX1_init_112 (by decide) (by decide) (Nat.le_of_ble_eq_true rfl) hf ⟨(Nat.le_of_ble_eq_true rfl), (Nat.le_of_ble_eq_true rfl)⟩ (fun h27 hf => ?_)
  show EE K (true, 14, 234) _ _ _ _
  refine E_putF (pc := 114) O FF_RailSequence_Plant_56 hn rfl rfl dX1_init_114 hf (fun h28 hf => ?_)
  refine E_aload_n (pc := 117) O 0 dX1_init_117 rfl rfl ?_
  refine E_bipush (pc := 118) O (8 : Int32) dX1_init_118 (by decide) ?_
  refine E_newaI (pc := 120) O (aw1 41 (by decide +kernel) rfl) dX1_init_120 (by decide) (by decide) (Nat.le_of_ble_eq_true rfl) hf ⟨(Nat.le_of_ble_eq_true rfl), (Nat.le_of_ble_eq_true rfl)⟩ (fun h29 hf => ?_)
  show EE K (true, 15, 242) _ _ _ _
  refine E_putF (pc := 122) O FF_RailSequence_Plant_59 hn rfl rfl dX1_init_122 hf (fun h30 hf => ?_)
  exact E_vret (pc := 125) O Z hf ⟨(Nat.le_of_ble_eq_true rfl), (Nat.le_of_ble_eq_true rfl)⟩ dX1_init_125
set_option maxHeartbeats 4000000 in
set_option maxRecDepth 100000 in
theorem t_X1_copyFrom {g : Gx} {fr : Bool} {h : MH} {x0 x1} {out : MH} (hf : f_X1_copyFrom h x0 x1 = some out) : MM g yX1_copyFrom cX1_copyFrom 2 none 2 81 0 0 fr fr [.ref x0, .ref x1] h none out := by
  unfold f_X1_copyFrom at hf
  refine MM_of (L := [some (.ref x0), some (.ref x1)]) (by decide) (Nat.le_of_ble_eq_true rfl) rfl (fun K hK O Z hn => ?_)
  refine E_aload_n (pc := 0) O 0 dX1_copyFrom_0 rfl rfl ?_
  refine E_aload_n (pc := 1) O 1 dX1_copyFrom_1 rfl rfl ?_
  refine E_getI (pc := 2) O FL_RailSequence_Plant_62 dX1_copyFrom_2 hf (fun v1 hf => ?_)
  refine E_put (pc := 5) O FN_RailSequence_Plant_62 rfl rfl dX1_copyFrom_5 hf (fun h2 hf => ?_)
  refine E_aload_n (pc := 8) O 0 dX1_copyFrom_8 rfl rfl ?_
  refine E_aload_n (pc := 9) O 1 dX1_copyFrom_9 rfl rfl ?_
  refine E_getI (pc := 10) O FL_RailSequence_Plant_65 dX1_copyFrom_10 hf (fun v3 hf => ?_)
  refine E_put (pc := 13) O FN_RailSequence_Plant_65 rfl rfl dX1_copyFrom_13 hf (fun h4 hf => ?_)
  refine E_aload_n (pc := 16) O 0 dX1_copyFrom_16 rfl rfl ?_
  refine E_aload_n (pc := 17) O 1 dX1_copyFrom_17 rfl rfl ?_
  refine E_getI (pc := 18) O FL_RailSequence_Plant_9 dX1_copyFrom_18 hf (fun v5 hf => ?_)
  refine E_put (pc := 21) O FN_RailSequence_Plant_9 rfl rfl dX1_copyFrom_21 hf (fun h6 hf => ?_)
  refine E_aload_n (pc := 24) O 0 dX1_copyFrom_24 rfl rfl ?_
  refine E_aload_n (pc := 25) O 1 dX1_copyFrom_25 rfl rfl ?_
  refine E_getI (pc := 26) O FL_RailSequence_Plant_68 dX1_copyFrom_26 hf (fun v7 hf => ?_)
  refine E_put (pc := 29) O FN_RailSequence_Plant_68 rfl rfl dX1_copyFrom_29 hf (fun h8 hf => ?_)
  refine E_aload_n (pc := 32) O 1 dX1_copyFrom_32 rfl rfl ?_
  refine E_getR (pc := 33) O FL_RailSequence_Plant_15 dX1_copyFrom_33 hf (fun v9 hf => ?_)
  refine E_iconst (pc := 36) O (0 : Int32) dX1_copyFrom_36 (by decide) ?_
  refine E_aload_n (pc := 37) O 0 dX1_copyFrom_37 rfl rfl ?_
  refine E_getR (pc := 38) O FL_RailSequence_Plant_15 dX1_copyFrom_38 hf (fun v10 hf => ?_)
  refine E_iconst (pc := 41) O (0 : Int32) dX1_copyFrom_41 (by decide) ?_
  refine E_bipush (pc := 42) O (56 : Int32) dX1_copyFrom_42 (by decide) ?_
  refine E_acopy (pc := 44) O (aw1 234 (by decide +kernel) rfl) (aw1 236 (by decide +kernel) rfl) (aw1 235 (by decide +kernel) rfl) (aw1 10 (by decide +kernel) rfl) (Nat.le_of_ble_eq_true rfl) (Nat.le_of_ble_eq_true rfl) dX1_copyFrom_44 hf (fun h11 hf => ?_)
  refine E_aload_n (pc := 47) O 1 dX1_copyFrom_47 rfl rfl ?_
  refine E_getR (pc := 48) O FL_RailSequence_Plant_19 dX1_copyFrom_48 hf (fun v12 hf => ?_)
  refine E_iconst (pc := 51) O (0 : Int32) dX1_copyFrom_51 (by decide) ?_
  refine E_aload_n (pc := 52) O 0 dX1_copyFrom_52 rfl rfl ?_
  refine E_getR (pc := 53) O FL_RailSequence_Plant_19 dX1_copyFrom_53 hf (fun v13 hf => ?_)
  refine E_iconst (pc := 56) O (0 : Int32) dX1_copyFrom_56 (by decide) ?_
  refine E_bipush (pc := 57) O (8 : Int32) dX1_copyFrom_57 (by decide) ?_
  refine E_acopy (pc := 59) O (aw1 234 (by decide +kernel) rfl) (aw1 236 (by decide +kernel) rfl) (aw1 235 (by decide +kernel) rfl) (aw1 10 (by decide +kernel) rfl) (Nat.le_of_ble_eq_true rfl) (Nat.le_of_ble_eq_true rfl) dX1_copyFrom_59 hf (fun h14 hf => ?_)
  refine E_aload_n (pc := 62) O 1 dX1_copyFrom_62 rfl rfl ?_
  refine E_getR (pc := 63) O FL_RailSequence_Plant_22 dX1_copyFrom_63 hf (fun v15 hf => ?_)
  refine E_iconst (pc := 66) O (0 : Int32) dX1_copyFrom_66 (by decide) ?_
  refine E_aload_n (pc := 67) O 0 dX1_copyFrom_67 rfl rfl ?_
  refine E_getR (pc := 68) O FL_RailSequence_Plant_22 dX1_copyFrom_68 hf (fun v16 hf => ?_)
  refine E_iconst (pc := 71) O (0 : Int32) dX1_copyFrom_71 (by decide) ?_
  refine E_bipush (pc := 72) O (8 : Int32) dX1_copyFrom_72 (by decide) ?_
  refine E_acopy (pc := 74) O (aw1 234 (by decide +kernel) rfl) (aw1 236 (by decide +kernel) rfl) (aw1 235 (by decide +kernel) rfl) (aw1 10 (by decide +kernel) rfl) (Nat.le_of_ble_eq_true rfl) (Nat.le_of_ble_eq_true rfl) dX1_copyFrom_74 hf (fun h17 hf => ?_)
  refine E_aload_n (pc := 77) O 1 dX1_copyFrom_77 rfl rfl ?_
  refine E_getR (pc := 78) O FL_RailSequence_Plant_25 dX1_copyFrom_78 hf (fun v18 hf => ?_)
  refine E_iconst (pc := 81) O (0 : Int32) dX1_copyFrom_81 (by decide) ?_
  refine E_aload_n (pc := 82) O 0 dX1_copyFrom_82 rfl rfl ?_
  refine E_getR (pc := 83) O FL_RailSequence_Plant_25 dX1_copyFrom_83 hf (fun v19 hf => ?_)
  refine E_iconst (pc := 86) O (0 : Int32) dX1_copyFrom_86 (by decide) ?_
  refine E_bipush (pc := 87) O (8 : Int32) dX1_copyFrom_87 (by decide) ?_
  refine E_acopy (pc := 89) O (aw1 234 (by decide +kernel) rfl) (aw1 236 (by decide +kernel) rfl) (aw1 235 (by decide +kernel) rfl) (aw1 10 (by decide +kernel) rfl) (Nat.le_of_ble_eq_true rfl) (Nat.le_of_ble_eq_true rfl) dX1_copyFrom_89 hf (fun h20 hf => ?_)
  refine E_aload_n (pc := 92) O 1 dX1_copyFrom_92 rfl rfl ?_
  refine E_getR (pc := 93) O FL_RailSequence_Plant_28 dX1_copyFrom_93 hf (fun v21 hf => ?_)
  refine E_iconst (pc := 96) O (0 : Int32) dX1_copyFrom_96 (by decide) ?_
  refine E_aload_n (pc := 97) O 0 dX1_copyFrom_97 rfl rfl ?_
  refine E_getR (pc := 98) O FL_RailSequence_Plant_28 dX1_copyFrom_98 hf (fun v22 hf => ?_)
  refine E_iconst (pc := 101) O (0 : Int32) dX1_copyFrom_101 (by decide) ?_
  refine E_bipush (pc := 102) O (8 : Int32) dX1_copyFrom_102 (by decide) ?_
  refine E_acopy (pc := 104) O (aw1 234 (by decide +kernel) rfl) (aw1 236 (by decide +kernel) rfl) (aw1 235 (by decide +kernel) rfl) (aw1 10 (by decide +kernel) rfl) (Nat.le_of_ble_eq_true rfl) (Nat.le_of_ble_eq_true rfl) dX1_copyFrom_104 hf (fun h23 hf => ?_)
  refine E_aload_n (pc := 107) O 1 dX1_copyFrom_107 rfl rfl ?_
  refine E_getR (pc := 108) O FL_RailSequence_Plant_31 dX1_copyFrom_108 hf (fun v24 hf => ?_)
  refine E_iconst (pc := 111) O (0 : Int32) dX1_copyFrom_111 (by decide) ?_
  refine E_aload_n (pc := 112) O 0 dX1_copyFrom_112 rfl rfl ?_
  refine E_getR (pc := 113) O FL_RailSequence_Plant_31 dX1_copyFrom_113 hf (fun v25 hf => ?_)
  refine E_iconst (pc := 116) O (0 : Int32) dX1_copyFrom_116 (by decide) ?_
  refine E_bipush (pc := 117) O (8 : Int32) dX1_copyFrom_117 (by decide) ?_
  refine E_acopy (pc := 119) O (aw1 234 (by decide +kernel) rfl) (aw1 236 (by decide +kernel) rfl) (aw1 235 (by decide +kernel) rfl) (aw1 10 (by decide +kernel) rfl) (Nat.le_of_ble_eq_true rfl) (Nat.le_of_ble_eq_true rfl) dX1_copyFrom_119 hf (fun h26 hf => ?_)
  refine E_aload_n (pc := 122) O 1 dX1_copyFrom_122 rfl rfl ?_
  refine E_getR (pc := 123) O FL_RailSequence_Plant_34 dX1_copyFrom_123 hf (fun v27 hf => ?_)
  refine E_iconst (pc := 126) O (0 : Int32) dX1_copyFrom_126 (by decide) ?_
  refine E_aload_n (pc := 127) O 0 dX1_copyFrom_127 rfl rfl ?_
  refine E_getR (pc := 128) O FL_RailSequence_Plant_34 dX1_copyFrom_128 hf (fun v28 hf => ?_)
  refine E_iconst (pc := 131) O (0 : Int32) dX1_copyFrom_131 (by decide) ?_
  refine E_bipush (pc := 132) O (8 : Int32) dX1_copyFrom_132 (by decide) ?_
  refine E_acopy (pc := 134) O (aw1 234 (by decide +kernel) rfl) (aw1 236 (by decide +kernel) rfl) (aw1 235 (by decide +kernel) rfl) (aw1 10 (by decide +kernel) rfl) (Nat.le_of_ble_eq_true rfl) (Nat.le_of_ble_eq_true rfl) dX1_copyFrom_134 hf (fun h29 hf => ?_)
  refine E_aload_n (pc := 137) O 1 dX1_copyFrom_137 rfl rfl ?_
  refine E_getR (pc := 138) O FL_RailSequence_Plant_37 dX1_copyFrom_138 hf (fun v30 hf => ?_)
  refine E_iconst (pc := 141) O (0 : Int32) dX1_copyFrom_141 (by decide) ?_
  refine E_aload_n (pc := 142) O 0 dX1_copyFrom_142 rfl rfl ?_
  refine E_getR (pc := 143) O FL_RailSequence_Plant_37 dX1_copyFrom_143 hf (fun v31 hf => ?_)
  refine E_iconst (pc := 146) O (0 : Int32) dX1_copyFrom_146 (by decide) ?_
  refine E_bipush (pc := 147) O (8 : Int32) dX1_copyFrom_147 (by decide) ?_
  refine E_acopy (pc := 149) O (aw1 234 (by decide +kernel) rfl) (aw1 236 (by decide +kernel) rfl) (aw1 235 (by decide +kernel) rfl) (aw1 10 (by decide +kernel) rfl) (Nat.le_of_ble_eq_true rfl) (Nat.le_of_ble_eq_true rfl) dX1_copyFrom_149 hf (fun h32 hf => ?_)
  refine E_aload_n (pc := 152) O 1 dX1_copyFrom_152 rfl rfl ?_
  refine E_getR (pc := 153) O FL_RailSequence_Plant_40 dX1_copyFrom_153 hf (fun v33 hf => ?_)
  refine E_iconst (pc := 156) O (0 : Int32) dX1_copyFrom_156 (by decide) ?_
  refine E_aload_n (pc := 157) O 0 dX1_copyFrom_157 rfl rfl ?_
  refine E_getR (pc := 158) O FL_RailSequence_Plant_40 dX1_copyFrom_158 hf (fun v34 hf => ?_)
  refine E_iconst (pc := 161) O (0 : Int32) dX1_copyFrom_161 (by decide) ?_
  refine E_bipush (pc := 162) O (8 : Int32) dX1_copyFrom_162 (by decide) ?_
  refine E_acopy (pc := 164) O (aw1 234 (by decide +kernel) rfl) (aw1 236 (by decide +kernel) rfl) (aw1 235 (by decide +kernel) rfl) (aw1 10 (by decide +kernel) rfl) (Nat.le_of_ble_eq_true rfl) (Nat.le_of_ble_eq_true rfl) dX1_copyFrom_164 hf (fun h35 hf => ?_)
  refine E_aload_n (pc := 167) O 1 dX1_copyFrom_167 rfl rfl ?_
  refine E_getR (pc := 168) O FL_RailSequence_Plant_43 dX1_copyFrom_168 hf (fun v36 hf => ?_)
  refine E_iconst (pc := 171) O (0 : Int32) dX1_copyFrom_171 (by decide) ?_
  refine E_aload_n (pc := 172) O 0 dX1_copyFrom_172 rfl rfl ?_
  refine E_getR (pc := 173) O FL_RailSequence_Plant_43 dX1_copyFrom_173 hf (fun v37 hf => ?_)
  refine E_iconst (pc := 176) O (0 : Int32) dX1_copyFrom_176 (by decide) ?_
  refine E_bipush (pc := 177) O (32 : Int32) dX1_copyFrom_177 (by decide) ?_
  refine E_acopy (pc := 179) O (aw1 234 (by decide +kernel) rfl) (aw1 236 (by decide +kernel) rfl) (aw1 235 (by decide +kernel) rfl) (aw1 10 (by decide +kernel) rfl) (Nat.le_of_ble_eq_true rfl) (Nat.le_of_ble_eq_true rfl) dX1_copyFrom_179 hf (fun h38 hf => ?_)
  refine E_aload_n (pc := 182) O 0 dX1_copyFrom_182 rfl rfl ?_
  refine E_getR (pc := 183) O FL_RailSequence_Plant_49 dX1_copyFrom_183 hf (fun v39 hf => ?_)
  refine E_aload_n (pc := 186) O 1 dX1_copyFrom_186 rfl rfl ?_
  refine E_getR (pc := 187) O FL_RailSequence_Plant_49 dX1_copyFrom_187 hf (fun v40 hf => ?_)
  refine E_callV_v (pc := 190) (S := []) O [.ref v40] CV_RailSequence_Plant_77 rfl (fun r e => t_X0_copyFrom e) dX1_copyFrom_190 hf rfl ⟨(Nat.le_of_ble_eq_true rfl), (Nat.le_of_ble_eq_true rfl)⟩ ⟨(Nat.le_of_ble_eq_true rfl), (Nat.le_of_ble_eq_true rfl)⟩ (Nat.le_of_ble_eq_true rfl) (fun h41 hf => ?_)
  exact E_vret (pc := 193) O Z hf ⟨(Nat.le_of_ble_eq_true rfl), (Nat.le_of_ble_eq_true rfl)⟩ dX1_copyFrom_193
set_option maxHeartbeats 4000000 in
set_option maxRecDepth 100000 in
theorem t_b_X1_add_154 {K : Cx} {fr : Bool} {out : MH} (O : Ok K yX1_add.cls cX1_add 8 (rmm 0 0 0 0)) (Z : Out K none fr none out) (rec154 : MH → Nat → Int32 → Int32 → Option MH) (hr154 : ∀ (h : MH) (x0 : Nat) (x5 : Int32) (x7 : Int32), rec154 h x0 x5 x7 = some out → EE K (fr, 0, 0) 154 [some (.ref x0), none, none, none, none, some (.int x5), none, some (.int x7)] [] h) (h : MH) (x0 : Nat) (x5 : Int32) (x7 : Int32) (hf : b_X1_add_154 rec154 h x0 x5 x7 = some out) : EE K (fr, 0, 0) 154 [some (.ref x0), none, none, none, none, some (.int x5), none, some (.int x7)] [] h := by
  unfold b_X1_add_154 at hf
  refine E_iload (pc := 154) O dX1_add_154 rfl ?_
  refine E_iconst (pc := 156) O (4 : Int32) dX1_add_156 (by decide) ?_
  refine E_icmp_ge (pc := 157) O 179 dX1_add_157 (by decide) hf (fun hf => ?_) (fun hf => ?_)
  · refine E_aload_n (pc := 179) O 0 dX1_add_179 rfl rfl ?_
    refine E_dup (pc := 180) O dX1_add_180 rfl ?_
    refine E_getI (pc := 181) O FL_RailSequence_Plant_62 dX1_add_181 hf (fun v1 hf => ?_)
    refine E_iconst (pc := 184) O (1 : Int32) dX1_add_184 (by decide) ?_
    refine E_iadd (pc := 185) O dX1_add_185 ?_
    refine E_put (pc := 186) O FN_RailSequence_Plant_62 rfl rfl dX1_add_186 hf (fun h2 hf => ?_)
    exact E_vret (pc := 189) O Z hf ⟨(Nat.le_of_ble_eq_true rfl), (Nat.le_of_ble_eq_true rfl)⟩ dX1_add_189
  · refine E_aload_n (pc := 160) O 0 dX1_add_160 rfl rfl ?_
    refine E_getR (pc := 161) O FL_RailSequence_Plant_43 dX1_add_161 hf (fun v3 hf => ?_)
    refine E_iload (pc := 164) O dX1_add_164 rfl ?_
    refine E_iconst (pc := 166) O (4 : Int32) dX1_add_166 (by decide) ?_
    refine E_imul (pc := 167) O dX1_add_167 ?_
    refine E_iload (pc := 168) O dX1_add_168 rfl ?_
    refine E_iadd (pc := 170) O dX1_add_170 ?_
    refine E_iconst (pc := 171) O (0 : Int32) dX1_add_171 (by decide) ?_
    refine E_iastore (pc := 172) O dX1_add_172 hf (fun h4 hf => ?_)
    refine E_iinc (pc := 173) O (1 : Int32) [some (.ref x0), none, none, none, none, some (.int x5), none, some (.int (x7 + (1 : Int32)))] dX1_add_173 rfl (by decide) rfl (by decide) rfl ?_
    refine E_goto (pc := 176) O 154 dX1_add_176 (by decide) ?_
    exact hr154 h4 x0 x5 (x7 + (1 : Int32)) hf
theorem t_f_X1_add_154 {K : Cx} {fr : Bool} {out : MH} (O : Ok K yX1_add.cls cX1_add 8 (rmm 0 0 0 0)) (Z : Out K none fr none out) : ∀ (n : Nat) (h : MH) (x0 : Nat) (x5 : Int32) (x7 : Int32), f_X1_add_154 n h x0 x5 x7 = some out → EE K (fr, 0, 0) 154 [some (.ref x0), none, none, none, none, some (.int x5), none, some (.int x7)] [] h := by
  intro n
  induction n with
  | zero => intro h x0 x5 x7 hf; cases hf
  | succ n ih => intro h x0 x5 x7 hf; exact t_b_X1_add_154 O Z _ ih h x0 x5 x7 hf
set_option maxHeartbeats 4000000 in
set_option maxRecDepth 100000 in
theorem t_X1_add {g : Gx} {fr : Bool} {h : MH} {x0 x1 x2 x3 x4} {out : MH} (hf : f_X1_add h x0 x1 x2 x3 x4 = some out) : MM g yX1_add cX1_add 8 none 0 0 0 0 fr fr [.ref x0, .int x1, .int x2, .int x3, .int x4] h none out := by
  unfold f_X1_add at hf
  refine MM_of (L := [some (.ref x0), some (.int x1), some (.int x2), some (.int x3), some (.int x4), none, none, none]) (by decide) (Nat.le_of_ble_eq_true rfl) rfl (fun K hK O Z hn => ?_)
  refine E_aload_n (pc := 0) O 0 dX1_add_0 rfl rfl ?_
  refine E_getI (pc := 1) O FL_RailSequence_Plant_62 dX1_add_1 hf (fun v5 hf => ?_)
  refine E_istore (pc := 4) O [some (.ref x0), some (.int x1), some (.int x2), some (.int x3), some (.int x4), some (.int v5), none, none] dX1_add_4 (by decide) rfl rfl ?_
  refine E_iload (pc := 6) O dX1_add_6 rfl ?_
  refine E_bipush (pc := 8) O (7 : Int32) dX1_add_8 (by decide) ?_
  refine E_imul (pc := 10) O dX1_add_10 ?_
  obtain ⟨v6, ev6, hf⟩ := ob hf
  have ev6 := os ev6
  rw [ev6]
  refine E_istore (pc := 11) O [some (.ref x0), some (.int x1), some (.int x2), some (.int x3), some (.int x4), some (.int v5), some (.int v6), none] dX1_add_11 (by decide) rfl rfl ?_
  refine E_aload_n (pc := 13) O 0 dX1_add_13 rfl rfl ?_
  refine E_getR (pc := 14) O FL_RailSequence_Plant_15 dX1_add_14 hf (fun v7 hf => ?_)
  refine E_iload (pc := 17) O dX1_add_17 rfl ?_
  refine E_iconst (pc := 19) O (0 : Int32) dX1_add_19 (by decide) ?_
  refine E_iadd (pc := 20) O dX1_add_20 ?_
  refine E_iload_n (pc := 21) O 1 dX1_add_21 rfl rfl ?_
  refine E_iastore (pc := 22) O dX1_add_22 hf (fun h8 hf => ?_)
  refine E_aload_n (pc := 23) O 0 dX1_add_23 rfl rfl ?_
  refine E_getR (pc := 24) O FL_RailSequence_Plant_15 dX1_add_24 hf (fun v9 hf => ?_)
  refine E_iload (pc := 27) O dX1_add_27 rfl ?_
  refine E_iconst (pc := 29) O (1 : Int32) dX1_add_29 (by decide) ?_
  refine E_iadd (pc := 30) O dX1_add_30 ?_
  refine E_iload_n (pc := 31) O 2 dX1_add_31 rfl rfl ?_
  refine E_iastore (pc := 32) O dX1_add_32 hf (fun h10 hf => ?_)
  refine E_aload_n (pc := 33) O 0 dX1_add_33 rfl rfl ?_
  refine E_getR (pc := 34) O FL_RailSequence_Plant_15 dX1_add_34 hf (fun v11 hf => ?_)
  refine E_iload (pc := 37) O dX1_add_37 rfl ?_
  refine E_iconst (pc := 39) O (2 : Int32) dX1_add_39 (by decide) ?_
  refine E_iadd (pc := 40) O dX1_add_40 ?_
  refine E_iload_n (pc := 41) O 3 dX1_add_41 rfl rfl ?_
  refine E_iastore (pc := 42) O dX1_add_42 hf (fun h12 hf => ?_)
  refine E_aload_n (pc := 43) O 0 dX1_add_43 rfl rfl ?_
  refine E_getR (pc := 44) O FL_RailSequence_Plant_15 dX1_add_44 hf (fun v13 hf => ?_)
  refine E_iload (pc := 47) O dX1_add_47 rfl ?_
  refine E_iconst (pc := 49) O (3 : Int32) dX1_add_49 (by decide) ?_
  refine E_iadd (pc := 50) O dX1_add_50 ?_
  refine E_bipush (pc := 51) O (90 : Int32) dX1_add_51 (by decide) ?_
  refine E_iastore (pc := 53) O dX1_add_53 hf (fun h14 hf => ?_)
  refine E_aload_n (pc := 54) O 0 dX1_add_54 rfl rfl ?_
  refine E_getR (pc := 55) O FL_RailSequence_Plant_15 dX1_add_55 hf (fun v15 hf => ?_)
  refine E_iload (pc := 58) O dX1_add_58 rfl ?_
  refine E_iconst (pc := 60) O (4 : Int32) dX1_add_60 (by decide) ?_
  refine E_iadd (pc := 61) O dX1_add_61 ?_
  refine E_iconst (pc := 62) O (2 : Int32) dX1_add_62 (by decide) ?_
  refine E_iastore (pc := 63) O dX1_add_63 hf (fun h16 hf => ?_)
  refine E_aload_n (pc := 64) O 0 dX1_add_64 rfl rfl ?_
  refine E_getR (pc := 65) O FL_RailSequence_Plant_15 dX1_add_65 hf (fun v17 hf => ?_)
  refine E_iload (pc := 68) O dX1_add_68 rfl ?_
  refine E_iconst (pc := 70) O (5 : Int32) dX1_add_70 (by decide) ?_
  refine E_iadd (pc := 71) O dX1_add_71 ?_
  refine E_bipush (pc := 72) O (40 : Int32) dX1_add_72 (by decide) ?_
  refine E_iastore (pc := 74) O dX1_add_74 hf (fun h18 hf => ?_)
  refine E_aload_n (pc := 75) O 0 dX1_add_75 rfl rfl ?_
  refine E_getR (pc := 76) O FL_RailSequence_Plant_15 dX1_add_76 hf (fun v19 hf => ?_)
  refine E_iload (pc := 79) O dX1_add_79 rfl ?_
  refine E_bipush (pc := 81) O (6 : Int32) dX1_add_81 (by decide) ?_
  refine E_iadd (pc := 83) O dX1_add_83 ?_
  refine E_iconst (pc := 84) O (2 : Int32) dX1_add_84 (by decide) ?_
  refine E_iastore (pc := 85) O dX1_add_85 hf (fun h20 hf => ?_)
  refine E_aload_n (pc := 86) O 0 dX1_add_86 rfl rfl ?_
  refine E_getR (pc := 87) O FL_RailSequence_Plant_19 dX1_add_87 hf (fun v21 hf => ?_)
  refine E_iload (pc := 90) O dX1_add_90 rfl ?_
  refine E_iload (pc := 92) O dX1_add_92 rfl ?_
  refine E_iastore (pc := 94) O dX1_add_94 hf (fun h22 hf => ?_)
  refine E_aload_n (pc := 95) O 0 dX1_add_95 rfl rfl ?_
  refine E_getR (pc := 96) O FL_RailSequence_Plant_22 dX1_add_96 hf (fun v23 hf => ?_)
  refine E_iload (pc := 99) O dX1_add_99 rfl ?_
  refine E_iconst (pc := 101) O (0 : Int32) dX1_add_101 (by decide) ?_
  refine E_iastore (pc := 102) O dX1_add_102 hf (fun h24 hf => ?_)
  refine E_aload_n (pc := 103) O 0 dX1_add_103 rfl rfl ?_
  refine E_getR (pc := 104) O FL_RailSequence_Plant_25 dX1_add_104 hf (fun v25 hf => ?_)
  refine E_iload (pc := 107) O dX1_add_107 rfl ?_
  refine E_iconst (pc := 109) O (0 : Int32) dX1_add_109 (by decide) ?_
  refine E_iastore (pc := 110) O dX1_add_110 hf (fun h26 hf => ?_)
  refine E_aload_n (pc := 111) O 0 dX1_add_111 rfl rfl ?_
  refine E_getR (pc := 112) O FL_RailSequence_Plant_28 dX1_add_112 hf (fun v27 hf => ?_)
  refine E_iload (pc := 115) O dX1_add_115 rfl ?_
  refine E_iconst (pc := 117) O (0 : Int32) dX1_add_117 (by decide) ?_
  refine E_iastore (pc := 118) O dX1_add_118 hf (fun h28 hf => ?_)
  refine E_aload_n (pc := 119) O 0 dX1_add_119 rfl rfl ?_
  refine E_getR (pc := 120) O FL_RailSequence_Plant_31 dX1_add_120 hf (fun v29 hf => ?_)
  refine E_iload (pc := 123) O dX1_add_123 rfl ?_
  refine E_iconst (pc := 125) O (0 : Int32) dX1_add_125 (by decide) ?_
  refine E_iastore (pc := 126) O dX1_add_126 hf (fun h30 hf => ?_)
  refine E_aload_n (pc := 127) O 0 dX1_add_127 rfl rfl ?_
  refine E_getR (pc := 128) O FL_RailSequence_Plant_34 dX1_add_128 hf (fun v31 hf => ?_)
  refine E_iload (pc := 131) O dX1_add_131 rfl ?_
  refine E_iconst (pc := 133) O (0 : Int32) dX1_add_133 (by decide) ?_
  refine E_iastore (pc := 134) O dX1_add_134 hf (fun h32 hf => ?_)
  refine E_aload_n (pc := 135) O 0 dX1_add_135 rfl rfl ?_
  refine E_getR (pc := 136) O FL_RailSequence_Plant_37 dX1_add_136 hf (fun v33 hf => ?_)
  refine E_iload (pc := 139) O dX1_add_139 rfl ?_
  refine E_iconst (pc := 141) O (0 : Int32) dX1_add_141 (by decide) ?_
  refine E_iastore (pc := 142) O dX1_add_142 hf (fun h34 hf => ?_)
  refine E_aload_n (pc := 143) O 0 dX1_add_143 rfl rfl ?_
  refine E_getR (pc := 144) O FL_RailSequence_Plant_40 dX1_add_144 hf (fun v35 hf => ?_)
  refine E_iload (pc := 147) O dX1_add_147 rfl ?_
  refine E_iconst (pc := 149) O (-1 : Int32) dX1_add_149 (by decide) ?_
  refine E_iastore (pc := 150) O dX1_add_150 hf (fun h36 hf => ?_)
  refine E_iconst (pc := 151) O (0 : Int32) dX1_add_151 (by decide) ?_
  refine E_istore (pc := 152) O [some (.ref x0), some (.int x1), some (.int x2), some (.int x3), some (.int x4), some (.int v5), some (.int v6), some (.int (0 : Int32))] dX1_add_152 (by decide) rfl rfl ?_
  exact E_sub (L' := [some (.ref x0), none, none, none, none, some (.int v5), none, some (.int (0 : Int32))]) (And.intro rfl (And.intro rfl (And.intro rfl True.intro))) (t_f_X1_add_154 O Z FU h36 x0 v5 (0 : Int32) hf)
set_option maxHeartbeats 4000000 in
set_option maxRecDepth 100000 in
theorem t_X1_propertyOf {g : Gx} {fr : Bool} {h : MH} {x0 x1 x2} {out : Int32} (hf : f_X1_propertyOf h x0 x1 x2 = some out) : MM g yX1_propertyOf cX1_propertyOf 3 (some .int) 0 0 0 0 fr fr [.ref x0, .int x1, .int x2] h (some (.int out)) h := by
  unfold f_X1_propertyOf at hf
  refine MM_of (L := [some (.ref x0), some (.int x1), some (.int x2)]) (by decide) (Nat.le_of_ble_eq_true rfl) rfl (fun K hK O Z hn => ?_)
  refine E_aload_n (pc := 0) O 0 dX1_propertyOf_0 rfl rfl ?_
  refine E_getR (pc := 1) O FL_RailSequence_Plant_15 dX1_propertyOf_1 hf (fun v1 hf => ?_)
  refine E_iload_n (pc := 4) O 1 dX1_propertyOf_4 rfl rfl ?_
  refine E_bipush (pc := 5) O (7 : Int32) dX1_propertyOf_5 (by decide) ?_
  refine E_imul (pc := 7) O dX1_propertyOf_7 ?_
  refine E_iload_n (pc := 8) O 2 dX1_propertyOf_8 rfl rfl ?_
  refine E_iadd (pc := 9) O dX1_propertyOf_9 ?_
  refine E_iaload (pc := 10) O dX1_propertyOf_10 hf (fun v2 hf => ?_)
  exact E_iretP (pc := 11) O Z hf ⟨(Nat.le_of_ble_eq_true rfl), (Nat.le_of_ble_eq_true rfl)⟩ dX1_propertyOf_11
set_option maxHeartbeats 4000000 in
set_option maxRecDepth 100000 in
theorem t_b_X1_isWanted_16 {K : Cx} {fr : Bool} {out : Int32} {h : MH} (O : Ok K yX1_isWanted.cls cX1_isWanted 2 (rmm 0 0 0 0)) (Z : Out K (some .boolean) fr (some (.int out)) h) (s0 : Int32) (hf : b_X1_isWanted_16 h s0 = some out) : EE K (fr, 0, 0) 16 [none, none] [.int s0] h := by
  unfold b_X1_isWanted_16 at hf
  exact E_zretP (pc := 16) O Z hf ⟨(Nat.le_of_ble_eq_true rfl), (Nat.le_of_ble_eq_true rfl)⟩ dX1_isWanted_16
set_option maxHeartbeats 4000000 in
set_option maxRecDepth 100000 in
theorem t_X1_isWanted {g : Gx} {fr : Bool} {h : MH} {x0 x1} {out : Int32} (hf : f_X1_isWanted h x0 x1 = some out) : MM g yX1_isWanted cX1_isWanted 2 (some .boolean) 0 0 0 0 fr fr [.ref x0, .int x1] h (some (.int out)) h := by
  unfold f_X1_isWanted at hf
  refine MM_of (L := [some (.ref x0), some (.int x1)]) (by decide) (Nat.le_of_ble_eq_true rfl) rfl (fun K hK O Z hn => ?_)
  refine E_aload_n (pc := 0) O 0 dX1_isWanted_0 rfl rfl ?_
  refine E_getI (pc := 1) O FL_RailSequence_Plant_68 dX1_isWanted_1 hf (fun v1 hf => ?_)
  refine E_iconst (pc := 4) O (1 : Int32) dX1_isWanted_4 (by decide) ?_
  refine E_iload_n (pc := 5) O 1 dX1_isWanted_5 rfl rfl ?_
  refine E_ishl (pc := 6) O dX1_isWanted_6 ?_
  refine E_iand (pc := 7) O dX1_isWanted_7 ?_
  refine E_if_eq (pc := 8) O 15 dX1_isWanted_8 (by decide) hf (fun hf => ?_) (fun hf => ?_)
  · refine E_iconst (pc := 15) O (0 : Int32) dX1_isWanted_15 (by decide) ?_
    exact E_sub (L' := [none, none]) True.intro (t_b_X1_isWanted_16 O Z (0 : Int32) hf)
  · refine E_iconst (pc := 11) O (1 : Int32) dX1_isWanted_11 (by decide) ?_
    refine E_goto (pc := 12) O 16 dX1_isWanted_12 (by decide) ?_
    exact E_sub (L' := [none, none]) True.intro (t_b_X1_isWanted_16 O Z (1 : Int32) hf)
set_option maxHeartbeats 4000000 in
set_option maxRecDepth 100000 in
theorem t_b_X1_isDischarged_18 {K : Cx} {fr : Bool} {out : Int32} {h : MH} (O : Ok K yX1_isDischarged.cls cX1_isDischarged 2 (rmm 0 0 0 0)) (Z : Out K (some .boolean) fr (some (.int out)) h) (s0 : Int32) (hf : b_X1_isDischarged_18 h s0 = some out) : EE K (fr, 0, 0) 18 [none, none] [.int s0] h := by
  unfold b_X1_isDischarged_18 at hf
  exact E_zretP (pc := 18) O Z hf ⟨(Nat.le_of_ble_eq_true rfl), (Nat.le_of_ble_eq_true rfl)⟩ dX1_isDischarged_18
set_option maxHeartbeats 4000000 in
set_option maxRecDepth 100000 in
theorem t_X1_isDischarged {g : Gx} {fr : Bool} {h : MH} {x0 x1} {out : Int32} (hf : f_X1_isDischarged h x0 x1 = some out) : MM g yX1_isDischarged cX1_isDischarged 2 (some .boolean) 0 0 0 0 fr fr [.ref x0, .int x1] h (some (.int out)) h := by
  unfold f_X1_isDischarged at hf
  refine MM_of (L := [some (.ref x0), some (.int x1)]) (by decide) (Nat.le_of_ble_eq_true rfl) rfl (fun K hK O Z hn => ?_)
  refine E_aload_n (pc := 0) O 0 dX1_isDischarged_0 rfl rfl ?_
  refine E_getR (pc := 1) O FL_RailSequence_Plant_25 dX1_isDischarged_1 hf (fun v1 hf => ?_)
  refine E_iload_n (pc := 4) O 1 dX1_isDischarged_4 rfl rfl ?_
  refine E_iaload (pc := 5) O dX1_isDischarged_5 hf (fun v2 hf => ?_)
  refine E_aload_n (pc := 6) O 0 dX1_isDischarged_6 rfl rfl ?_
  refine E_getI (pc := 7) O FL_RailSequence_Plant_9 dX1_isDischarged_7 hf (fun v3 hf => ?_)
  refine E_icmp_gt (pc := 10) O 17 dX1_isDischarged_10 (by decide) hf (fun hf => ?_) (fun hf => ?_)
  · refine E_iconst (pc := 17) O (0 : Int32) dX1_isDischarged_17 (by decide) ?_
    exact E_sub (L' := [none, none]) True.intro (t_b_X1_isDischarged_18 O Z (0 : Int32) hf)
  · refine E_iconst (pc := 13) O (1 : Int32) dX1_isDischarged_13 (by decide) ?_
    refine E_goto (pc := 14) O 18 dX1_isDischarged_14 (by decide) ?_
    exact E_sub (L' := [none, none]) True.intro (t_b_X1_isDischarged_18 O Z (1 : Int32) hf)
set_option maxHeartbeats 4000000 in
set_option maxRecDepth 100000 in
theorem t_b_X1_hasFlag_24 {K : Cx} {fr : Bool} {out : Int32} {h : MH} (O : Ok K yX1_hasFlag.cls cX1_hasFlag 3 (rmm 0 0 0 0)) (Z : Out K (some .boolean) fr (some (.int out)) h) (s0 : Int32) (hf : b_X1_hasFlag_24 h s0 = some out) : EE K (fr, 0, 0) 24 [none, none, none] [.int s0] h := by
  unfold b_X1_hasFlag_24 at hf
  exact E_zretP (pc := 24) O Z hf ⟨(Nat.le_of_ble_eq_true rfl), (Nat.le_of_ble_eq_true rfl)⟩ dX1_hasFlag_24
set_option maxHeartbeats 4000000 in
set_option maxRecDepth 100000 in
theorem t_b_X1_hasFlag_64 {K : Cx} {fr : Bool} {out : Int32} {h : MH} (O : Ok K yX1_hasFlag.cls cX1_hasFlag 3 (rmm 0 0 0 0)) (Z : Out K (some .boolean) fr (some (.int out)) h) (s0 : Int32) (hf : b_X1_hasFlag_64 h s0 = some out) : EE K (fr, 0, 0) 64 [none, none, none] [.int s0] h := by
  unfold b_X1_hasFlag_64 at hf
  exact E_zretP (pc := 64) O Z hf ⟨(Nat.le_of_ble_eq_true rfl), (Nat.le_of_ble_eq_true rfl)⟩ dX1_hasFlag_64
set_option maxHeartbeats 4000000 in
set_option maxRecDepth 100000 in
theorem t_X1_hasFlag {g : Gx} {fr : Bool} {h : MH} {x0 x1} {out : Int32} (hf : f_X1_hasFlag h x0 x1 = some out) : MM g yX1_hasFlag cX1_hasFlag 3 (some .boolean) 0 0 0 0 fr fr [.ref x0, .int x1] h (some (.int out)) h := by
  unfold f_X1_hasFlag at hf
  refine MM_of (L := [some (.ref x0), some (.int x1), none]) (by decide) (Nat.le_of_ble_eq_true rfl) rfl (fun K hK O Z hn => ?_)
  refine E_aload_n (pc := 0) O 0 dX1_hasFlag_0 rfl rfl ?_
  refine E_getR (pc := 1) O FL_RailSequence_Plant_28 dX1_hasFlag_1 hf (fun v1 hf => ?_)
  refine E_iload_n (pc := 4) O 1 dX1_hasFlag_4 rfl rfl ?_
  refine E_iaload (pc := 5) O dX1_hasFlag_5 hf (fun v2 hf => ?_)
  refine E_if_eq (pc := 6) O 25 dX1_hasFlag_6 (by decide) hf (fun hf => ?_) (fun hf => ?_)
  · refine E_iload_n (pc := 25) O 1 dX1_hasFlag_25 rfl rfl ?_
    refine E_bipush (pc := 26) O (7 : Int32) dX1_hasFlag_26 (by decide) ?_
    refine E_imul (pc := 28) O dX1_hasFlag_28 ?_
    obtain ⟨v3, ev3, hf⟩ := ob hf
    have ev3 := os ev3
    rw [ev3]
    refine E_istore_n (pc := 29) O 2 [some (.ref x0), some (.int x1), some (.int v3)] dX1_hasFlag_29 rfl (by decide) rfl rfl ?_
    refine E_aload_n (pc := 30) O 0 dX1_hasFlag_30 rfl rfl ?_
    refine E_getR (pc := 31) O FL_RailSequence_Plant_25 dX1_hasFlag_31 hf (fun v4 hf => ?_)
    refine E_iload_n (pc := 34) O 1 dX1_hasFlag_34 rfl rfl ?_
    refine E_iaload (pc := 35) O dX1_hasFlag_35 hf (fun v5 hf => ?_)
    refine E_bipush (pc := 36) O (100 : Int32) dX1_hasFlag_36 (by decide) ?_
    refine E_imul (pc := 38) O dX1_hasFlag_38 ?_
    refine E_aload_n (pc := 39) O 0 dX1_hasFlag_39 rfl rfl ?_
    refine E_getR (pc := 40) O FL_RailSequence_Plant_15 dX1_hasFlag_40 hf (fun v6 hf => ?_)
    refine E_iload_n (pc := 43) O 2 dX1_hasFlag_43 rfl rfl ?_
    refine E_iconst (pc := 44) O (0 : Int32) dX1_hasFlag_44 (by decide) ?_
    refine E_iadd (pc := 45) O dX1_hasFlag_45 ?_
    refine E_iaload (pc := 46) O dX1_hasFlag_46 hf (fun v7 hf => ?_)
    refine E_aload_n (pc := 47) O 0 dX1_hasFlag_47 rfl rfl ?_
    refine E_getR (pc := 48) O FL_RailSequence_Plant_15 dX1_hasFlag_48 hf (fun v8 hf => ?_)
    refine E_iload_n (pc := 51) O 2 dX1_hasFlag_51 rfl rfl ?_
    refine E_iconst (pc := 52) O (3 : Int32) dX1_hasFlag_52 (by decide) ?_
    refine E_iadd (pc := 53) O dX1_hasFlag_53 ?_
    refine E_iaload (pc := 54) O dX1_hasFlag_54 hf (fun v9 hf => ?_)
    refine E_imul (pc := 55) O dX1_hasFlag_55 ?_
    refine E_icmp_lt (pc := 56) O 63 dX1_hasFlag_56 (by decide) hf (fun hf => ?_) (fun hf => ?_)
    · refine E_iconst (pc := 63) O (0 : Int32) dX1_hasFlag_63 (by decide) ?_
      exact E_sub (L' := [none, none, none]) True.intro (t_b_X1_hasFlag_64 O Z (0 : Int32) hf)
    · refine E_iconst (pc := 59) O (1 : Int32) dX1_hasFlag_59 (by decide) ?_
      refine E_goto (pc := 60) O 64 dX1_hasFlag_60 (by decide) ?_
      exact E_sub (L' := [none, none, none]) True.intro (t_b_X1_hasFlag_64 O Z (1 : Int32) hf)
  · refine E_aload_n (pc := 9) O 0 dX1_hasFlag_9 rfl rfl ?_
    refine E_getR (pc := 10) O FL_RailSequence_Plant_28 dX1_hasFlag_10 hf (fun v10 hf => ?_)
    refine E_iload_n (pc := 13) O 1 dX1_hasFlag_13 rfl rfl ?_
    refine E_iaload (pc := 14) O dX1_hasFlag_14 hf (fun v11 hf => ?_)
    refine E_iconst (pc := 15) O (2 : Int32) dX1_hasFlag_15 (by decide) ?_
    refine E_icmp_ne (pc := 16) O 23 dX1_hasFlag_16 (by decide) hf (fun hf => ?_) (fun hf => ?_)
    · refine E_iconst (pc := 23) O (0 : Int32) dX1_hasFlag_23 (by decide) ?_
      exact E_sub (L' := [none, none, none]) True.intro (t_b_X1_hasFlag_24 O Z (0 : Int32) hf)
    · refine E_iconst (pc := 19) O (1 : Int32) dX1_hasFlag_19 (by decide) ?_
      refine E_goto (pc := 20) O 24 dX1_hasFlag_20 (by decide) ?_
      exact E_sub (L' := [none, none, none]) True.intro (t_b_X1_hasFlag_24 O Z (1 : Int32) hf)
set_option maxHeartbeats 4000000 in
set_option maxRecDepth 100000 in
theorem t_b_X1_withFollowers_29 {K : Cx} {fr : Bool} {out : Int32} {h : MH} (O : Ok K yX1_withFollowers.cls cX1_withFollowers 4 (rmm 0 0 0 0)) (Z : Out K (some .int) fr (some (.int out)) h) (rec4 : Nat → Int32 → Int32 → Option Int32) (hr4 : ∀ (x0 : Nat) (x2 : Int32) (x3 : Int32), rec4 x0 x2 x3 = some out → EE K (fr, 0, 0) 4 [some (.ref x0), none, some (.int x2), some (.int x3)] [] h) (x0 : Nat) (x2 : Int32) (x3 : Int32) (hf : b_X1_withFollowers_29 h rec4 x0 x2 x3 = some out) : EE K (fr, 0, 0) 29 [some (.ref x0), none, some (.int x2), some (.int x3)] [] h := by
  unfold b_X1_withFollowers_29 at hf
  refine E_iinc (pc := 29) O (1 : Int32) [some (.ref x0), none, some (.int x2), some (.int (x3 + (1 : Int32)))] dX1_withFollowers_29 rfl (by decide) rfl (by decide) rfl ?_
  refine E_goto (pc := 32) O 4 dX1_withFollowers_32 (by decide) ?_
  exact hr4 x0 x2 (x3 + (1 : Int32)) hf
set_option maxHeartbeats 4000000 in
set_option maxRecDepth 100000 in
theorem t_b_X1_withFollowers_4 {K : Cx} {fr : Bool} {out : Int32} {h : MH} (O : Ok K yX1_withFollowers.cls cX1_withFollowers 4 (rmm 0 0 0 0)) (Z : Out K (some .int) fr (some (.int out)) h) (rec4 : Nat → Int32 → Int32 → Option Int32) (hr4 : ∀ (x0 : Nat) (x2 : Int32) (x3 : Int32), rec4 x0 x2 x3 = some out → EE K (fr, 0, 0) 4 [some (.ref x0), none, some (.int x2), some (.int x3)] [] h) (x0 : Nat) (x2 : Int32) (x3 : Int32) (hf : b_X1_withFollowers_4 h rec4 x0 x2 x3 = some out) : EE K (fr, 0, 0) 4 [some (.ref x0), none, some (.int x2), some (.int x3)] [] h := by
  unfold b_X1_withFollowers_4 at hf
  refine E_iload_n (pc := 4) O 3 dX1_withFollowers_4 rfl rfl ?_
  refine E_aload_n (pc := 5) O 0 dX1_withFollowers_5 rfl rfl ?_
  refine E_getI (pc := 6) O FL_RailSequence_Plant_62 dX1_withFollowers_6 hf (fun v1 hf => ?_)
  refine E_icmp_ge (pc := 9) O 35 dX1_withFollowers_9 (by decide) hf (fun hf => ?_) (fun hf => ?_)
  · refine E_iload_n (pc := 35) O 2 dX1_withFollowers_35 rfl rfl ?_
    exact E_iretP (pc := 36) O Z hf ⟨(Nat.le_of_ble_eq_true rfl), (Nat.le_of_ble_eq_true rfl)⟩ dX1_withFollowers_36
  · refine E_iload_n (pc := 12) O 2 dX1_withFollowers_12 rfl rfl ?_
    refine E_aload_n (pc := 13) O 0 dX1_withFollowers_13 rfl rfl ?_
    refine E_getR (pc := 14) O FL_RailSequence_Plant_19 dX1_withFollowers_14 hf (fun v2 hf => ?_)
    refine E_iload_n (pc := 17) O 3 dX1_withFollowers_17 rfl rfl ?_
    refine E_iaload (pc := 18) O dX1_withFollowers_18 hf (fun v3 hf => ?_)
    refine E_iand (pc := 19) O dX1_withFollowers_19 ?_
    refine E_if_eq (pc := 20) O 29 dX1_withFollowers_20 (by decide) hf (fun hf => ?_) (fun hf => ?_)
    · exact t_b_X1_withFollowers_29 O Z _ hr4 x0 x2 x3 hf
    · refine E_iload_n (pc := 23) O 2 dX1_withFollowers_23 rfl rfl ?_
      refine E_iconst (pc := 24) O (1 : Int32) dX1_withFollowers_24 (by decide) ?_
      refine E_iload_n (pc := 25) O 3 dX1_withFollowers_25 rfl rfl ?_
      refine E_ishl (pc := 26) O dX1_withFollowers_26 ?_
      refine E_ior (pc := 27) O dX1_withFollowers_27 ?_
      obtain ⟨v4, ev4, hf⟩ := ob hf
      have ev4 := os ev4
      rw [ev4]
      refine E_istore_n (pc := 28) O 2 [some (.ref x0), none, some (.int v4), some (.int x3)] dX1_withFollowers_28 rfl (by decide) rfl rfl ?_
      exact t_b_X1_withFollowers_29 O Z _ hr4 x0 v4 x3 hf
theorem t_f_X1_withFollowers_4 {K : Cx} {fr : Bool} {out : Int32} {h : MH} (O : Ok K yX1_withFollowers.cls cX1_withFollowers 4 (rmm 0 0 0 0)) (Z : Out K (some .int) fr (some (.int out)) h) : ∀ (n : Nat) (x0 : Nat) (x2 : Int32) (x3 : Int32), f_X1_withFollowers_4 h n x0 x2 x3 = some out → EE K (fr, 0, 0) 4 [some (.ref x0), none, some (.int x2), some (.int x3)] [] h := by
  intro n
  induction n with
  | zero => intro x0 x2 x3 hf; cases hf
  | succ n ih => intro x0 x2 x3 hf; exact t_b_X1_withFollowers_4 O Z _ ih x0 x2 x3 hf
set_option maxHeartbeats 4000000 in
set_option maxRecDepth 100000 in
theorem t_X1_withFollowers {g : Gx} {fr : Bool} {h : MH} {x0 x1} {out : Int32} (hf : f_X1_withFollowers h x0 x1 = some out) : MM g yX1_withFollowers cX1_withFollowers 4 (some .int) 0 0 0 0 fr fr [.ref x0, .int x1] h (some (.int out)) h := by
  unfold f_X1_withFollowers at hf
  refine MM_of (L := [some (.ref x0), some (.int x1), none, none]) (by decide) (Nat.le_of_ble_eq_true rfl) rfl (fun K hK O Z hn => ?_)
  refine E_iload_n (pc := 0) O 1 dX1_withFollowers_0 rfl rfl ?_
  refine E_istore_n (pc := 1) O 2 [some (.ref x0), some (.int x1), some (.int x1), none] dX1_withFollowers_1 rfl (by decide) rfl rfl ?_
  refine E_iconst (pc := 2) O (0 : Int32) dX1_withFollowers_2 (by decide) ?_
  refine E_istore_n (pc := 3) O 3 [some (.ref x0), some (.int x1), some (.int x1), some (.int (0 : Int32))] dX1_withFollowers_3 rfl (by decide) rfl rfl ?_
  exact E_sub (L' := [some (.ref x0), none, some (.int x1), some (.int (0 : Int32))]) (And.intro rfl (And.intro rfl (And.intro rfl True.intro))) (t_f_X1_withFollowers_4 O Z FU x0 x1 (0 : Int32) hf)
set_option maxHeartbeats 4000000 in
set_option maxRecDepth 100000 in
theorem t_b_X1_firstBlameOf_45 {K : Cx} {fr : Bool} {out : Int32} {h : MH} (O : Ok K yX1_firstBlameOf.cls cX1_firstBlameOf 4 (rmm 0 0 0 0)) (Z : Out K (some .int) fr (some (.int out)) h) (x2 : Int32) (hf : b_X1_firstBlameOf_45 h x2 = some out) : EE K (fr, 0, 0) 45 [none, none, some (.int x2), none] [] h := by
  unfold b_X1_firstBlameOf_45 at hf
  refine E_iload_n (pc := 45) O 2 dX1_firstBlameOf_45 rfl rfl ?_
  exact E_iretP (pc := 46) O Z hf ⟨(Nat.le_of_ble_eq_true rfl), (Nat.le_of_ble_eq_true rfl)⟩ dX1_firstBlameOf_46
set_option maxHeartbeats 4000000 in
set_option maxRecDepth 100000 in
theorem t_b_X1_firstBlameOf_16 {K : Cx} {fr : Bool} {out : Int32} {h : MH} (O : Ok K yX1_firstBlameOf.cls cX1_firstBlameOf 4 (rmm 0 0 0 0)) (Z : Out K (some .int) fr (some (.int out)) h) (rec16 : Nat → Int32 → Int32 → Option Int32) (hr16 : ∀ (x0 : Nat) (x2 : Int32) (x3 : Int32), rec16 x0 x2 x3 = some out → EE K (fr, 0, 0) 16 [some (.ref x0), none, some (.int x2), some (.int x3)] [] h) (x0 : Nat) (x2 : Int32) (x3 : Int32) (hf : b_X1_firstBlameOf_16 h rec16 x0 x2 x3 = some out) : EE K (fr, 0, 0) 16 [some (.ref x0), none, some (.int x2), some (.int x3)] [] h := by
  unfold b_X1_firstBlameOf_16 at hf
  refine E_iload_n (pc := 16) O 3 dX1_firstBlameOf_16 rfl rfl ?_
  refine E_bipush (pc := 17) O (8 : Int32) dX1_firstBlameOf_17 (by decide) ?_
  refine E_icmp_ge (pc := 19) O 45 dX1_firstBlameOf_19 (by decide) hf (fun hf => ?_) (fun hf => ?_)
  · exact E_sub (L' := [none, none, some (.int x2), none]) (And.intro rfl True.intro) (t_b_X1_firstBlameOf_45 O Z x2 hf)
  · refine E_aload_n (pc := 22) O 0 dX1_firstBlameOf_22 rfl rfl ?_
    refine E_getR (pc := 23) O FL_RailSequence_Plant_40 dX1_firstBlameOf_23 hf (fun v1 hf => ?_)
    refine E_iload_n (pc := 26) O 2 dX1_firstBlameOf_26 rfl rfl ?_
    refine E_iaload (pc := 27) O dX1_firstBlameOf_27 hf (fun v2 hf => ?_)
    refine E_iconst (pc := 28) O (-1 : Int32) dX1_firstBlameOf_28 (by decide) ?_
    refine E_icmp_eq (pc := 29) O 45 dX1_firstBlameOf_29 (by decide) hf (fun hf => ?_) (fun hf => ?_)
    · exact E_sub (L' := [none, none, some (.int x2), none]) (And.intro rfl True.intro) (t_b_X1_firstBlameOf_45 O Z x2 hf)
    · refine E_aload_n (pc := 32) O 0 dX1_firstBlameOf_32 rfl rfl ?_
      refine E_getR (pc := 33) O FL_RailSequence_Plant_40 dX1_firstBlameOf_33 hf (fun v3 hf => ?_)
      refine E_iload_n (pc := 36) O 2 dX1_firstBlameOf_36 rfl rfl ?_
      refine E_iaload (pc := 37) O dX1_firstBlameOf_37 hf (fun v4 hf => ?_)
      refine E_istore_n (pc := 38) O 2 [some (.ref x0), none, some (.int v4), some (.int x3)] dX1_firstBlameOf_38 rfl (by decide) rfl rfl ?_
      refine E_iinc (pc := 39) O (1 : Int32) [some (.ref x0), none, some (.int v4), some (.int (x3 + (1 : Int32)))] dX1_firstBlameOf_39 rfl (by decide) rfl (by decide) rfl ?_
      refine E_goto (pc := 42) O 16 dX1_firstBlameOf_42 (by decide) ?_
      exact hr16 x0 v4 (x3 + (1 : Int32)) hf
theorem t_f_X1_firstBlameOf_16 {K : Cx} {fr : Bool} {out : Int32} {h : MH} (O : Ok K yX1_firstBlameOf.cls cX1_firstBlameOf 4 (rmm 0 0 0 0)) (Z : Out K (some .int) fr (some (.int out)) h) : ∀ (n : Nat) (x0 : Nat) (x2 : Int32) (x3 : Int32), f_X1_firstBlameOf_16 h n x0 x2 x3 = some out → EE K (fr, 0, 0) 16 [some (.ref x0), none, some (.int x2), some (.int x3)] [] h := by
  intro n
  induction n with
  | zero => intro x0 x2 x3 hf; cases hf
  | succ n ih => intro x0 x2 x3 hf; exact t_b_X1_firstBlameOf_16 O Z _ ih x0 x2 x3 hf
set_option maxHeartbeats 4000000 in
set_option maxRecDepth 100000 in
theorem t_X1_firstBlameOf {g : Gx} {fr : Bool} {h : MH} {x0 x1} {out : Int32} (hf : f_X1_firstBlameOf h x0 x1 = some out) : MM g yX1_firstBlameOf cX1_firstBlameOf 4 (some .int) 0 0 0 0 fr fr [.ref x0, .int x1] h (some (.int out)) h := by
  unfold f_X1_firstBlameOf at hf
  refine MM_of (L := [some (.ref x0), some (.int x1), none, none]) (by decide) (Nat.le_of_ble_eq_true rfl) rfl (fun K hK O Z hn => ?_)
  refine E_aload_n (pc := 0) O 0 dX1_firstBlameOf_0 rfl rfl ?_
  refine E_getR (pc := 1) O FL_RailSequence_Plant_40 dX1_firstBlameOf_1 hf (fun v5 hf => ?_)
  refine E_iload_n (pc := 4) O 1 dX1_firstBlameOf_4 rfl rfl ?_
  refine E_iaload (pc := 5) O dX1_firstBlameOf_5 hf (fun v6 hf => ?_)
  refine E_iconst (pc := 6) O (-1 : Int32) dX1_firstBlameOf_6 (by decide) ?_
  refine E_icmp_ne (pc := 7) O 12 dX1_firstBlameOf_7 (by decide) hf (fun hf => ?_) (fun hf => ?_)
  · refine E_iload_n (pc := 12) O 1 dX1_firstBlameOf_12 rfl rfl ?_
    refine E_istore_n (pc := 13) O 2 [some (.ref x0), some (.int x1), some (.int x1), none] dX1_firstBlameOf_13 rfl (by decide) rfl rfl ?_
    refine E_iconst (pc := 14) O (0 : Int32) dX1_firstBlameOf_14 (by decide) ?_
    refine E_istore_n (pc := 15) O 3 [some (.ref x0), some (.int x1), some (.int x1), some (.int (0 : Int32))] dX1_firstBlameOf_15 rfl (by decide) rfl rfl ?_
    exact E_sub (L' := [some (.ref x0), none, some (.int x1), some (.int (0 : Int32))]) (And.intro rfl (And.intro rfl (And.intro rfl True.intro))) (t_f_X1_firstBlameOf_16 O Z FU x0 x1 (0 : Int32) hf)
  · refine E_iconst (pc := 10) O (-1 : Int32) dX1_firstBlameOf_10 (by decide) ?_
    exact E_iretP (pc := 11) O Z hf ⟨(Nat.le_of_ble_eq_true rfl), (Nat.le_of_ble_eq_true rfl)⟩ dX1_firstBlameOf_11
set_option maxHeartbeats 4000000 in
set_option maxRecDepth 100000 in
theorem t_b_X1_numberOf_98 {K : Cx} {fr : Bool} {out : Int32} {h : MH} (O : Ok K yX1_numberOf.cls cX1_numberOf 3 (rmm 1 23 0 0)) (Z : Out K (some .int) fr (some (.int out)) h) (s0 : Int32) (hf : b_X1_numberOf_98 h s0 = some out) : EE K (fr, 0, 0) 98 [none, none, none] [.int s0] h := by
  unfold b_X1_numberOf_98 at hf
  exact E_iretP (pc := 98) O Z hf ⟨(Nat.le_of_ble_eq_true rfl), (Nat.le_of_ble_eq_true rfl)⟩ dX1_numberOf_98
set_option maxHeartbeats 4000000 in
set_option maxRecDepth 100000 in
theorem t_b_X1_numberOf_126 {K : Cx} {fr : Bool} {out : Int32} {h : MH} (O : Ok K yX1_numberOf.cls cX1_numberOf 3 (rmm 1 23 0 0)) (Z : Out K (some .int) fr (some (.int out)) h) (s0 : Int32) (hf : b_X1_numberOf_126 h s0 = some out) : EE K (fr, 0, 0) 126 [none, none, none] [.int s0] h := by
  unfold b_X1_numberOf_126 at hf
  exact E_iretP (pc := 126) O Z hf ⟨(Nat.le_of_ble_eq_true rfl), (Nat.le_of_ble_eq_true rfl)⟩ dX1_numberOf_126
set_option maxHeartbeats 4000000 in
set_option maxRecDepth 100000 in
theorem t_X1_numberOf {g : Gx} {fr : Bool} {h : MH} {x0 x1 x2} {out : Int32} (hf : f_X1_numberOf h x0 x1 x2 = some out) : MM g yX1_numberOf cX1_numberOf 3 (some .int) 1 23 0 0 fr fr [.ref x0, .int x1, .int x2] h (some (.int out)) h := by
  unfold f_X1_numberOf at hf
  refine MM_of (L := [some (.ref x0), some (.int x1), some (.int x2)]) (by decide) (Nat.le_of_ble_eq_true rfl) rfl (fun K hK O Z hn => ?_)
  refine E_iload_n (pc := 0) O 2 dX1_numberOf_0 rfl rfl ?_
  refine E_ite hf (fun c1 hf => ?_) (fun n1_0 hf => ?_)
  · refine E_tswIn (pc := 1) (off := 63) O 7 64 c1 dX1_numberOf_1 (by decide) (by decide) (by decide) (by decide) ?_
    refine E_aload_n (pc := 64) O 0 dX1_numberOf_64 rfl rfl ?_
    refine E_getR (pc := 65) O FL_RailSequence_Plant_19 dX1_numberOf_65 hf (fun v1 hf => ?_)
    refine E_iload_n (pc := 68) O 1 dX1_numberOf_68 rfl rfl ?_
    refine E_iaload (pc := 69) O dX1_numberOf_69 hf (fun v2 hf => ?_)
    exact E_iretP (pc := 70) O Z hf ⟨(Nat.le_of_ble_eq_true rfl), (Nat.le_of_ble_eq_true rfl)⟩ dX1_numberOf_70
  · refine E_ite hf (fun c1 hf => ?_) (fun n1_1 hf => ?_)
    · refine E_tswIn (pc := 1) (off := 70) O 8 71 c1 dX1_numberOf_1 (by decide) (by decide) (by decide) (by decide) ?_
      refine E_aload_n (pc := 71) O 0 dX1_numberOf_71 rfl rfl ?_
      refine E_iconst (pc := 72) O (1 : Int32) dX1_numberOf_72 (by decide) ?_
      refine E_iload_n (pc := 73) O 1 dX1_numberOf_73 rfl rfl ?_
      refine E_ishl (pc := 74) O dX1_numberOf_74 ?_
      refine E_callV_iP (pc := 75) (S := []) O [.int ((1 : Int32) <<< (x1 &&& 31))] CV_RailSequence_Plant_81 rfl (fun r e => t_X1_withFollowers e) dX1_numberOf_75 hf rfl ⟨(Nat.le_of_ble_eq_true rfl), (Nat.le_of_ble_eq_true rfl)⟩ ⟨(Nat.le_of_ble_eq_true rfl), (Nat.le_of_ble_eq_true rfl)⟩ (Nat.le_of_ble_eq_true rfl) (fun v3 hf => ?_)
      refine E_iconst (pc := 78) O (1 : Int32) dX1_numberOf_78 (by decide) ?_
      refine E_iload_n (pc := 79) O 1 dX1_numberOf_79 rfl rfl ?_
      refine E_ishl (pc := 80) O dX1_numberOf_80 ?_
      refine E_iconst (pc := 81) O (-1 : Int32) dX1_numberOf_81 (by decide) ?_
      refine E_ixor (pc := 82) O dX1_numberOf_82 ?_
      refine E_iand (pc := 83) O dX1_numberOf_83 ?_
      exact E_iretP (pc := 84) O Z hf ⟨(Nat.le_of_ble_eq_true rfl), (Nat.le_of_ble_eq_true rfl)⟩ dX1_numberOf_84
    · refine E_ite hf (fun c1 hf => ?_) (fun n1_2 hf => ?_)
      · refine E_tswIn (pc := 1) (off := 84) O 9 85 c1 dX1_numberOf_1 (by decide) (by decide) (by decide) (by decide) ?_
        refine E_aload_n (pc := 85) O 0 dX1_numberOf_85 rfl rfl ?_
        refine E_iload_n (pc := 86) O 1 dX1_numberOf_86 rfl rfl ?_
        refine E_callV_iP (pc := 87) (S := []) O [.int x1] CV_RailSequence_Plant_85 rfl (fun r e => t_X1_isWanted e) dX1_numberOf_87 hf rfl ⟨(Nat.le_of_ble_eq_true rfl), (Nat.le_of_ble_eq_true rfl)⟩ ⟨(Nat.le_of_ble_eq_true rfl), (Nat.le_of_ble_eq_true rfl)⟩ (Nat.le_of_ble_eq_true rfl) (fun v4 hf => ?_)
        refine E_if_eq (pc := 90) O 97 dX1_numberOf_90 (by decide) hf (fun hf => ?_) (fun hf => ?_)
        · refine E_iconst (pc := 97) O (0 : Int32) dX1_numberOf_97 (by decide) ?_
          exact E_sub (L' := [none, none, none]) True.intro (t_b_X1_numberOf_98 O Z (0 : Int32) hf)
        · refine E_iconst (pc := 93) O (1 : Int32) dX1_numberOf_93 (by decide) ?_
          refine E_goto (pc := 94) O 98 dX1_numberOf_94 (by decide) ?_
          exact E_sub (L' := [none, none, none]) True.intro (t_b_X1_numberOf_98 O Z (1 : Int32) hf)
      · refine E_ite hf (fun c1 hf => ?_) (fun n1_3 hf => ?_)
        · refine E_tswIn (pc := 1) (off := 98) O 10 99 c1 dX1_numberOf_1 (by decide) (by decide) (by decide) (by decide) ?_
          refine E_aload_n (pc := 99) O 0 dX1_numberOf_99 rfl rfl ?_
          refine E_getR (pc := 100) O FL_RailSequence_Plant_22 dX1_numberOf_100 hf (fun v5 hf => ?_)
          refine E_iload_n (pc := 103) O 1 dX1_numberOf_103 rfl rfl ?_
          refine E_iaload (pc := 104) O dX1_numberOf_104 hf (fun v6 hf => ?_)
          exact E_iretP (pc := 105) O Z hf ⟨(Nat.le_of_ble_eq_true rfl), (Nat.le_of_ble_eq_true rfl)⟩ dX1_numberOf_105
        · refine E_ite hf (fun c1 hf => ?_) (fun n1_4 hf => ?_)
          · refine E_tswIn (pc := 1) (off := 105) O 11 106 c1 dX1_numberOf_1 (by decide) (by decide) (by decide) (by decide) ?_
            refine E_aload_n (pc := 106) O 0 dX1_numberOf_106 rfl rfl ?_
            refine E_getR (pc := 107) O FL_RailSequence_Plant_25 dX1_numberOf_107 hf (fun v7 hf => ?_)
            refine E_iload_n (pc := 110) O 1 dX1_numberOf_110 rfl rfl ?_
            refine E_iaload (pc := 111) O dX1_numberOf_111 hf (fun v8 hf => ?_)
            exact E_iretP (pc := 112) O Z hf ⟨(Nat.le_of_ble_eq_true rfl), (Nat.le_of_ble_eq_true rfl)⟩ dX1_numberOf_112
          · refine E_ite hf (fun c1 hf => ?_) (fun n1_5 hf => ?_)
            · refine E_tswIn (pc := 1) (off := 112) O 12 113 c1 dX1_numberOf_1 (by decide) (by decide) (by decide) (by decide) ?_
              refine E_aload_n (pc := 113) O 0 dX1_numberOf_113 rfl rfl ?_
              refine E_iload_n (pc := 114) O 1 dX1_numberOf_114 rfl rfl ?_
              refine E_callV_iP (pc := 115) (S := []) O [.int x1] CV_RailSequence_Plant_89 rfl (fun r e => t_X1_hasFlag e) dX1_numberOf_115 hf rfl ⟨(Nat.le_of_ble_eq_true rfl), (Nat.le_of_ble_eq_true rfl)⟩ ⟨(Nat.le_of_ble_eq_true rfl), (Nat.le_of_ble_eq_true rfl)⟩ (Nat.le_of_ble_eq_true rfl) (fun v9 hf => ?_)
              refine E_if_eq (pc := 118) O 125 dX1_numberOf_118 (by decide) hf (fun hf => ?_) (fun hf => ?_)
              · refine E_iconst (pc := 125) O (0 : Int32) dX1_numberOf_125 (by decide) ?_
                exact E_sub (L' := [none, none, none]) True.intro (t_b_X1_numberOf_126 O Z (0 : Int32) hf)
              · refine E_iconst (pc := 121) O (1 : Int32) dX1_numberOf_121 (by decide) ?_
                refine E_goto (pc := 122) O 126 dX1_numberOf_122 (by decide) ?_
                exact E_sub (L' := [none, none, none]) True.intro (t_b_X1_numberOf_126 O Z (1 : Int32) hf)
            · refine E_ite hf (fun c1 hf => ?_) (fun n1_6 hf => ?_)
              · refine E_tswIn (pc := 1) (off := 126) O 13 127 c1 dX1_numberOf_1 (by decide) (by decide) (by decide) (by decide) ?_
                refine E_aload_n (pc := 127) O 0 dX1_numberOf_127 rfl rfl ?_
                refine E_getR (pc := 128) O FL_RailSequence_Plant_28 dX1_numberOf_128 hf (fun v10 hf => ?_)
                refine E_iload_n (pc := 131) O 1 dX1_numberOf_131 rfl rfl ?_
                refine E_iaload (pc := 132) O dX1_numberOf_132 hf (fun v11 hf => ?_)
                exact E_iretP (pc := 133) O Z hf ⟨(Nat.le_of_ble_eq_true rfl), (Nat.le_of_ble_eq_true rfl)⟩ dX1_numberOf_133
              · refine E_ite hf (fun c1 hf => ?_) (fun n1_7 hf => ?_)
                · refine E_tswIn (pc := 1) (off := 133) O 14 134 c1 dX1_numberOf_1 (by decide) (by decide) (by decide) (by decide) ?_
                  refine E_aload_n (pc := 134) O 0 dX1_numberOf_134 rfl rfl ?_
                  refine E_getR (pc := 135) O FL_RailSequence_Plant_31 dX1_numberOf_135 hf (fun v12 hf => ?_)
                  refine E_iload_n (pc := 138) O 1 dX1_numberOf_138 rfl rfl ?_
                  refine E_iaload (pc := 139) O dX1_numberOf_139 hf (fun v13 hf => ?_)
                  exact E_iretP (pc := 140) O Z hf ⟨(Nat.le_of_ble_eq_true rfl), (Nat.le_of_ble_eq_true rfl)⟩ dX1_numberOf_140
                · refine E_ite hf (fun c1 hf => ?_) (fun n1_8 hf => ?_)
                  · refine E_tswIn (pc := 1) (off := 140) O 15 141 c1 dX1_numberOf_1 (by decide) (by decide) (by decide) (by decide) ?_
                    refine E_aload_n (pc := 141) O 0 dX1_numberOf_141 rfl rfl ?_
                    refine E_getR (pc := 142) O FL_RailSequence_Plant_34 dX1_numberOf_142 hf (fun v14 hf => ?_)
                    refine E_iload_n (pc := 145) O 1 dX1_numberOf_145 rfl rfl ?_
                    refine E_iaload (pc := 146) O dX1_numberOf_146 hf (fun v15 hf => ?_)
                    exact E_iretP (pc := 147) O Z hf ⟨(Nat.le_of_ble_eq_true rfl), (Nat.le_of_ble_eq_true rfl)⟩ dX1_numberOf_147
                  · refine E_ite hf (fun c1 hf => ?_) (fun n1_9 hf => ?_)
                    · refine E_tswIn (pc := 1) (off := 147) O 16 148 c1 dX1_numberOf_1 (by decide) (by decide) (by decide) (by decide) ?_
                      refine E_aload_n (pc := 148) O 0 dX1_numberOf_148 rfl rfl ?_
                      refine E_getR (pc := 149) O FL_RailSequence_Plant_37 dX1_numberOf_149 hf (fun v16 hf => ?_)
                      refine E_iload_n (pc := 152) O 1 dX1_numberOf_152 rfl rfl ?_
                      refine E_iaload (pc := 153) O dX1_numberOf_153 hf (fun v17 hf => ?_)
                      exact E_iretP (pc := 154) O Z hf ⟨(Nat.le_of_ble_eq_true rfl), (Nat.le_of_ble_eq_true rfl)⟩ dX1_numberOf_154
                    · refine E_ite hf (fun c1 hf => ?_) (fun n1_10 hf => ?_)
                      · refine E_tswIn (pc := 1) (off := 154) O 17 155 c1 dX1_numberOf_1 (by decide) (by decide) (by decide) (by decide) ?_
                        refine E_aload_n (pc := 155) O 0 dX1_numberOf_155 rfl rfl ?_
                        refine E_getR (pc := 156) O FL_RailSequence_Plant_40 dX1_numberOf_156 hf (fun v18 hf => ?_)
                        refine E_iload_n (pc := 159) O 1 dX1_numberOf_159 rfl rfl ?_
                        refine E_iaload (pc := 160) O dX1_numberOf_160 hf (fun v19 hf => ?_)
                        exact E_iretP (pc := 161) O Z hf ⟨(Nat.le_of_ble_eq_true rfl), (Nat.le_of_ble_eq_true rfl)⟩ dX1_numberOf_161
                      · refine E_ite hf (fun c1 hf => ?_) (fun n1_11 hf => ?_)
                        · refine E_tswIn (pc := 1) (off := 161) O 18 162 c1 dX1_numberOf_1 (by decide) (by decide) (by decide) (by decide) ?_
                          refine E_aload_n (pc := 162) O 0 dX1_numberOf_162 rfl rfl ?_
                          refine E_iload_n (pc := 163) O 1 dX1_numberOf_163 rfl rfl ?_
                          refine E_callV_iP (pc := 164) (S := []) O [.int x1] CV_RailSequence_Plant_92 rfl (fun r e => t_X1_firstBlameOf e) dX1_numberOf_164 hf rfl ⟨(Nat.le_of_ble_eq_true rfl), (Nat.le_of_ble_eq_true rfl)⟩ ⟨(Nat.le_of_ble_eq_true rfl), (Nat.le_of_ble_eq_true rfl)⟩ (Nat.le_of_ble_eq_true rfl) (fun v20 hf => ?_)
                          exact E_iretP (pc := 167) O Z hf ⟨(Nat.le_of_ble_eq_true rfl), (Nat.le_of_ble_eq_true rfl)⟩ dX1_numberOf_167
                        · refine E_tswOut (pc := 1) O 168 dX1_numberOf_1 (by have z := tsw_out 7 12 (by decide) (lt_s (lt_s (lt_s (lt_s (lt_s (lt_s (lt_s (lt_s (lt_s (lt_s (lt_s (lt_s lt_0 n1_0) n1_1) n1_2) n1_3) n1_4) n1_5) n1_6) n1_7) n1_8) n1_9) n1_10) n1_11); omega) (by decide) ?_
                          refine E_aload_n (pc := 168) O 0 dX1_numberOf_168 rfl rfl ?_
                          refine E_iload_n (pc := 169) O 1 dX1_numberOf_169 rfl rfl ?_
                          refine E_iload_n (pc := 170) O 2 dX1_numberOf_170 rfl rfl ?_
                          refine E_callV_iP (pc := 171) (S := []) O [.int x1, .int x2] CV_RailSequence_Plant_95 rfl (fun r e => t_X1_propertyOf e) dX1_numberOf_171 hf rfl ⟨(Nat.le_of_ble_eq_true rfl), (Nat.le_of_ble_eq_true rfl)⟩ ⟨(Nat.le_of_ble_eq_true rfl), (Nat.le_of_ble_eq_true rfl)⟩ (Nat.le_of_ble_eq_true rfl) (fun v21 hf => ?_)
                          exact E_iretP (pc := 174) O Z hf ⟨(Nat.le_of_ble_eq_true rfl), (Nat.le_of_ble_eq_true rfl)⟩ dX1_numberOf_174
set_option maxHeartbeats 4000000 in
set_option maxRecDepth 100000 in
theorem t_b_X1_leastPatienceOf_31 {K : Cx} {fr : Bool} {out : Int32} {h : MH} (O : Ok K yX1_leastPatienceOf.cls cX1_leastPatienceOf 5 (rmm 1 22 0 0)) (Z : Out K (some .int) fr (some (.int out)) h) (rec31 : Int32 → Int32 → Int32 → Option Int32) (hr31 : ∀ (x2 : Int32) (x3 : Int32) (x4 : Int32), rec31 x2 x3 x4 = some out → EE K (fr, 0, 0) 31 [none, none, some (.int x2), some (.int x3), some (.int x4)] [] h) (x2 : Int32) (x3 : Int32) (x4 : Int32) (hf : b_X1_leastPatienceOf_31 h rec31 x2 x3 x4 = some out) : EE K (fr, 0, 0) 31 [none, none, some (.int x2), some (.int x3), some (.int x4)] [] h := by
  unfold b_X1_leastPatienceOf_31 at hf
  refine E_iload (pc := 31) O dX1_leastPatienceOf_31 rfl ?_
  refine E_getsMOSTN (pc := 33) O (List.mem_filter.mpr ⟨List.mem_append_right _ (List.mem_append_left _ (List.mem_of_getElem? (i := 152) (by decide +kernel))), rfl⟩) dX1_leastPatienceOf_33 ?_
  refine E_iconst (pc := 36) O (5 : Int32) dX1_leastPatienceOf_36 (by decide) ?_
  refine E_ialoadRO (pc := 37) (i := 2) O (by decide) rfl dX1_leastPatienceOf_37 hf (fun v1 hf => ?_)
  refine E_icmp_gt (pc := 38) O 58 dX1_leastPatienceOf_38 (by decide) hf (fun hf => ?_) (fun hf => ?_)
  · refine E_iconst (pc := 58) O (-1 : Int32) dX1_leastPatienceOf_58 (by decide) ?_
    exact E_iretP (pc := 59) O Z hf ⟨(Nat.le_of_ble_eq_true rfl), (Nat.le_of_ble_eq_true rfl)⟩ dX1_leastPatienceOf_59
  · refine E_iload (pc := 41) O dX1_leastPatienceOf_41 rfl ?_
    refine E_iload_n (pc := 43) O 3 dX1_leastPatienceOf_43 rfl rfl ?_
    refine E_imul (pc := 44) O dX1_leastPatienceOf_44 ?_
    refine E_iload_n (pc := 45) O 2 dX1_leastPatienceOf_45 rfl rfl ?_
    refine E_icmp_lt (pc := 46) O 52 dX1_leastPatienceOf_46 (by decide) hf (fun hf => ?_) (fun hf => ?_)
    · refine E_iinc (pc := 52) O (1 : Int32) [none, none, some (.int x2), some (.int x3), some (.int (x4 + (1 : Int32)))] dX1_leastPatienceOf_52 rfl (by decide) rfl (by decide) rfl ?_
      refine E_goto (pc := 55) O 31 dX1_leastPatienceOf_55 (by decide) ?_
      exact hr31 x2 x3 (x4 + (1 : Int32)) hf
    · refine E_iload (pc := 49) O dX1_leastPatienceOf_49 rfl ?_
      exact E_iretP (pc := 51) O Z hf ⟨(Nat.le_of_ble_eq_true rfl), (Nat.le_of_ble_eq_true rfl)⟩ dX1_leastPatienceOf_51
theorem t_f_X1_leastPatienceOf_31 {K : Cx} {fr : Bool} {out : Int32} {h : MH} (O : Ok K yX1_leastPatienceOf.cls cX1_leastPatienceOf 5 (rmm 1 22 0 0)) (Z : Out K (some .int) fr (some (.int out)) h) : ∀ (n : Nat) (x2 : Int32) (x3 : Int32) (x4 : Int32), f_X1_leastPatienceOf_31 h n x2 x3 x4 = some out → EE K (fr, 0, 0) 31 [none, none, some (.int x2), some (.int x3), some (.int x4)] [] h := by
  intro n
  induction n with
  | zero => intro x2 x3 x4 hf; cases hf
  | succ n ih => intro x2 x3 x4 hf; exact t_b_X1_leastPatienceOf_31 O Z _ ih x2 x3 x4 hf
set_option maxHeartbeats 4000000 in
set_option maxRecDepth 100000 in
theorem t_X1_leastPatienceOf {g : Gx} {fr : Bool} {h : MH} {x0 x1} {out : Int32} (hf : f_X1_leastPatienceOf h x0 x1 = some out) : MM g yX1_leastPatienceOf cX1_leastPatienceOf 5 (some .int) 1 22 0 0 fr fr [.ref x0, .int x1] h (some (.int out)) h := by
  unfold f_X1_leastPatienceOf at hf
  refine MM_of (L := [some (.ref x0), some (.int x1), none, none, none]) (by decide) (Nat.le_of_ble_eq_true rfl) rfl (fun K hK O Z hn => ?_)
  refine E_aload_n (pc := 0) O 0 dX1_leastPatienceOf_0 rfl rfl ?_
  refine E_iload_n (pc := 1) O 1 dX1_leastPatienceOf_1 rfl rfl ?_
  refine E_iconst (pc := 2) O (0 : Int32) dX1_leastPatienceOf_2 (by decide) ?_
  refine E_callV_iP (pc := 3) (S := []) O [.int x1, .int (0 : Int32)] CV_RailSequence_Plant_95 rfl (fun r e => t_X1_propertyOf e) dX1_leastPatienceOf_3 hf rfl ⟨(Nat.le_of_ble_eq_true rfl), (Nat.le_of_ble_eq_true rfl)⟩ ⟨(Nat.le_of_ble_eq_true rfl), (Nat.le_of_ble_eq_true rfl)⟩ (Nat.le_of_ble_eq_true rfl) (fun v2 hf => ?_)
  refine E_aload_n (pc := 6) O 0 dX1_leastPatienceOf_6 rfl rfl ?_
  refine E_iload_n (pc := 7) O 1 dX1_leastPatienceOf_7 rfl rfl ?_
  refine E_iconst (pc := 8) O (3 : Int32) dX1_leastPatienceOf_8 (by decide) ?_
  refine E_callV_iP (pc := 9) (S := [.int v2]) O [.int x1, .int (3 : Int32)] CV_RailSequence_Plant_95 rfl (fun r e => t_X1_propertyOf e) dX1_leastPatienceOf_9 hf rfl ⟨(Nat.le_of_ble_eq_true rfl), (Nat.le_of_ble_eq_true rfl)⟩ ⟨(Nat.le_of_ble_eq_true rfl), (Nat.le_of_ble_eq_true rfl)⟩ (Nat.le_of_ble_eq_true rfl) (fun v3 hf => ?_)
  refine E_imul (pc := 12) O dX1_leastPatienceOf_12 ?_
  obtain ⟨v4, ev4, hf⟩ := ob hf
  have ev4 := os ev4
  rw [ev4]
  refine E_istore_n (pc := 13) O 2 [some (.ref x0), some (.int x1), some (.int v4), none, none] dX1_leastPatienceOf_13 rfl (by decide) rfl rfl ?_
  refine E_aload_n (pc := 14) O 0 dX1_leastPatienceOf_14 rfl rfl ?_
  refine E_iload_n (pc := 15) O 1 dX1_leastPatienceOf_15 rfl rfl ?_
  refine E_iconst (pc := 16) O (1 : Int32) dX1_leastPatienceOf_16 (by decide) ?_
  refine E_callV_iP (pc := 17) (S := []) O [.int x1, .int (1 : Int32)] CV_RailSequence_Plant_95 rfl (fun r e => t_X1_propertyOf e) dX1_leastPatienceOf_17 hf rfl ⟨(Nat.le_of_ble_eq_true rfl), (Nat.le_of_ble_eq_true rfl)⟩ ⟨(Nat.le_of_ble_eq_true rfl), (Nat.le_of_ble_eq_true rfl)⟩ (Nat.le_of_ble_eq_true rfl) (fun v5 hf => ?_)
  refine E_bipush (pc := 20) O (100 : Int32) dX1_leastPatienceOf_20 (by decide) ?_
  refine E_imul (pc := 22) O dX1_leastPatienceOf_22 ?_
  obtain ⟨v6, ev6, hf⟩ := ob hf
  have ev6 := os ev6
  rw [ev6]
  refine E_istore_n (pc := 23) O 3 [some (.ref x0), some (.int x1), some (.int v4), some (.int v6), none] dX1_leastPatienceOf_23 rfl (by decide) rfl rfl ?_
  refine E_getsLEASTN (pc := 24) O (List.mem_filter.mpr ⟨List.mem_append_right _ (List.mem_append_left _ (List.mem_of_getElem? (i := 150) (by decide +kernel))), rfl⟩) dX1_leastPatienceOf_24 ?_
  refine E_iconst (pc := 27) O (5 : Int32) dX1_leastPatienceOf_27 (by decide) ?_
  refine E_ialoadRO (pc := 28) (i := 1) O (by decide) rfl dX1_leastPatienceOf_28 hf (fun v7 hf => ?_)
  refine E_istore (pc := 29) O [some (.ref x0), some (.int x1), some (.int v4), some (.int v6), some (.int v7)] dX1_leastPatienceOf_29 (by decide) rfl rfl ?_
  exact E_sub (L' := [none, none, some (.int v4), some (.int v6), some (.int v7)]) (And.intro rfl (And.intro rfl (And.intro rfl True.intro))) (t_f_X1_leastPatienceOf_31 O Z FU v4 v6 v7 hf)
set_option maxHeartbeats 4000000 in
set_option maxRecDepth 100000 in
theorem t_b_X1_withAllNeeded_30 {K : Cx} {fr : Bool} {out : Int32} {h : MH} (O : Ok K yX1_withAllNeeded.cls cX1_withAllNeeded 4 (rmm 0 0 0 0)) (Z : Out K (some .int) fr (some (.int out)) h) (rec9 : Nat → Int32 → Int32 → Option Int32) (hr9 : ∀ (x0 : Nat) (x2 : Int32) (x3 : Int32), rec9 x0 x2 x3 = some out → EE K (fr, 0, 0) 9 [some (.ref x0), none, some (.int x2), some (.int x3)] [] h) (x0 : Nat) (x2 : Int32) (x3 : Int32) (hf : b_X1_withAllNeeded_30 h rec9 x0 x2 x3 = some out) : EE K (fr, 0, 0) 30 [some (.ref x0), none, some (.int x2), some (.int x3)] [] h := by
  unfold b_X1_withAllNeeded_30 at hf
  refine E_iinc (pc := 30) O (-1 : Int32) [some (.ref x0), none, some (.int x2), some (.int (x3 + (-1 : Int32)))] dX1_withAllNeeded_30 rfl (by decide) rfl (by decide) rfl ?_
  refine E_goto (pc := 33) O 9 dX1_withAllNeeded_33 (by decide) ?_
  exact hr9 x0 x2 (x3 + (-1 : Int32)) hf
set_option maxHeartbeats 4000000 in
set_option maxRecDepth 100000 in
theorem t_b_X1_withAllNeeded_9 {K : Cx} {fr : Bool} {out : Int32} {h : MH} (O : Ok K yX1_withAllNeeded.cls cX1_withAllNeeded 4 (rmm 0 0 0 0)) (Z : Out K (some .int) fr (some (.int out)) h) (rec9 : Nat → Int32 → Int32 → Option Int32) (hr9 : ∀ (x0 : Nat) (x2 : Int32) (x3 : Int32), rec9 x0 x2 x3 = some out → EE K (fr, 0, 0) 9 [some (.ref x0), none, some (.int x2), some (.int x3)] [] h) (x0 : Nat) (x2 : Int32) (x3 : Int32) (hf : b_X1_withAllNeeded_9 h rec9 x0 x2 x3 = some out) : EE K (fr, 0, 0) 9 [some (.ref x0), none, some (.int x2), some (.int x3)] [] h := by
  unfold b_X1_withAllNeeded_9 at hf
  refine E_iload_n (pc := 9) O 3 dX1_withAllNeeded_9 rfl rfl ?_
  refine E_if_lt (pc := 10) O 36 dX1_withAllNeeded_10 (by decide) hf (fun hf => ?_) (fun hf => ?_)
  · refine E_iload_n (pc := 36) O 2 dX1_withAllNeeded_36 rfl rfl ?_
    exact E_iretP (pc := 37) O Z hf ⟨(Nat.le_of_ble_eq_true rfl), (Nat.le_of_ble_eq_true rfl)⟩ dX1_withAllNeeded_37
  · refine E_iload_n (pc := 13) O 2 dX1_withAllNeeded_13 rfl rfl ?_
    refine E_iconst (pc := 14) O (1 : Int32) dX1_withAllNeeded_14 (by decide) ?_
    refine E_iload_n (pc := 15) O 3 dX1_withAllNeeded_15 rfl rfl ?_
    refine E_ishl (pc := 16) O dX1_withAllNeeded_16 ?_
    refine E_iand (pc := 17) O dX1_withAllNeeded_17 ?_
    refine E_if_eq (pc := 18) O 30 dX1_withAllNeeded_18 (by decide) hf (fun hf => ?_) (fun hf => ?_)
    · exact t_b_X1_withAllNeeded_30 O Z _ hr9 x0 x2 x3 hf
    · refine E_iload_n (pc := 21) O 2 dX1_withAllNeeded_21 rfl rfl ?_
      refine E_aload_n (pc := 22) O 0 dX1_withAllNeeded_22 rfl rfl ?_
      refine E_getR (pc := 23) O FL_RailSequence_Plant_19 dX1_withAllNeeded_23 hf (fun v1 hf => ?_)
      refine E_iload_n (pc := 26) O 3 dX1_withAllNeeded_26 rfl rfl ?_
      refine E_iaload (pc := 27) O dX1_withAllNeeded_27 hf (fun v2 hf => ?_)
      refine E_ior (pc := 28) O dX1_withAllNeeded_28 ?_
      obtain ⟨v3, ev3, hf⟩ := ob hf
      have ev3 := os ev3
      rw [ev3]
      refine E_istore_n (pc := 29) O 2 [some (.ref x0), none, some (.int v3), some (.int x3)] dX1_withAllNeeded_29 rfl (by decide) rfl rfl ?_
      exact t_b_X1_withAllNeeded_30 O Z _ hr9 x0 v3 x3 hf
theorem t_f_X1_withAllNeeded_9 {K : Cx} {fr : Bool} {out : Int32} {h : MH} (O : Ok K yX1_withAllNeeded.cls cX1_withAllNeeded 4 (rmm 0 0 0 0)) (Z : Out K (some .int) fr (some (.int out)) h) : ∀ (n : Nat) (x0 : Nat) (x2 : Int32) (x3 : Int32), f_X1_withAllNeeded_9 h n x0 x2 x3 = some out → EE K (fr, 0, 0) 9 [some (.ref x0), none, some (.int x2), some (.int x3)] [] h := by
  intro n
  induction n with
  | zero => intro x0 x2 x3 hf; cases hf
  | succ n ih => intro x0 x2 x3 hf; exact t_b_X1_withAllNeeded_9 O Z _ ih x0 x2 x3 hf
set_option maxHeartbeats 4000000 in
set_option maxRecDepth 100000 in
theorem t_X1_withAllNeeded {g : Gx} {fr : Bool} {h : MH} {x0 x1} {out : Int32} (hf : f_X1_withAllNeeded h x0 x1 = some out) : MM g yX1_withAllNeeded cX1_withAllNeeded 4 (some .int) 0 0 0 0 fr fr [.ref x0, .int x1] h (some (.int out)) h := by
  unfold f_X1_withAllNeeded at hf
  refine MM_of (L := [some (.ref x0), some (.int x1), none, none]) (by decide) (Nat.le_of_ble_eq_true rfl) rfl (fun K hK O Z hn => ?_)
  refine E_iload_n (pc := 0) O 1 dX1_withAllNeeded_0 rfl rfl ?_
  refine E_istore_n (pc := 1) O 2 [some (.ref x0), some (.int x1), some (.int x1), none] dX1_withAllNeeded_1 rfl (by decide) rfl rfl ?_
  refine E_aload_n (pc := 2) O 0 dX1_withAllNeeded_2 rfl rfl ?_
  refine E_getI (pc := 3) O FL_RailSequence_Plant_62 dX1_withAllNeeded_3 hf (fun v4 hf => ?_)
  refine E_iconst (pc := 6) O (1 : Int32) dX1_withAllNeeded_6 (by decide) ?_
  refine E_isub (pc := 7) O dX1_withAllNeeded_7 ?_
  obtain ⟨v5, ev5, hf⟩ := ob hf
  have ev5 := os ev5
  rw [ev5]
  refine E_istore_n (pc := 8) O 3 [some (.ref x0), some (.int x1), some (.int x1), some (.int v5)] dX1_withAllNeeded_8 rfl (by decide) rfl rfl ?_
  exact E_sub (L' := [some (.ref x0), none, some (.int x1), some (.int v5)]) (And.intro rfl (And.intro rfl (And.intro rfl True.intro))) (t_f_X1_withAllNeeded_9 O Z FU x0 x1 v5 hf)
set_option maxHeartbeats 4000000 in
set_option maxRecDepth 100000 in
theorem t_b_X1_maskOf_28 {K : Cx} {fr : Bool} {out : Int32} {h : MH} (O : Ok K yX1_maskOf.cls cX1_maskOf 4 (rmm 0 0 0 0)) (Z : Out K (some .int) fr (some (.int out)) h) (rec4 : Nat → Int32 → Int32 → Int32 → Option Int32) (hr4 : ∀ (x0 : Nat) (x1 : Int32) (x2 : Int32) (x3 : Int32), rec4 x0 x1 x2 x3 = some out → EE K (fr, 0, 0) 4 [some (.ref x0), some (.int x1), some (.int x2), some (.int x3)] [] h) (x0 : Nat) (x1 : Int32) (x2 : Int32) (x3 : Int32) (hf : b_X1_maskOf_28 h rec4 x0 x1 x2 x3 = some out) : EE K (fr, 0, 0) 28 [some (.ref x0), some (.int x1), some (.int x2), some (.int x3)] [] h := by
  unfold b_X1_maskOf_28 at hf
  refine E_iinc (pc := 28) O (1 : Int32) [some (.ref x0), some (.int x1), some (.int x2), some (.int (x3 + (1 : Int32)))] dX1_maskOf_28 rfl (by decide) rfl (by decide) rfl ?_
  refine E_goto (pc := 31) O 4 dX1_maskOf_31 (by decide) ?_
  exact hr4 x0 x1 x2 (x3 + (1 : Int32)) hf
set_option maxHeartbeats 4000000 in
set_option maxRecDepth 100000 in
theorem t_b_X1_maskOf_4 {K : Cx} {fr : Bool} {out : Int32} {h : MH} (O : Ok K yX1_maskOf.cls cX1_maskOf 4 (rmm 0 0 0 0)) (Z : Out K (some .int) fr (some (.int out)) h) (rec4 : Nat → Int32 → Int32 → Int32 → Option Int32) (hr4 : ∀ (x0 : Nat) (x1 : Int32) (x2 : Int32) (x3 : Int32), rec4 x0 x1 x2 x3 = some out → EE K (fr, 0, 0) 4 [some (.ref x0), some (.int x1), some (.int x2), some (.int x3)] [] h) (x0 : Nat) (x1 : Int32) (x2 : Int32) (x3 : Int32) (hf : b_X1_maskOf_4 h rec4 x0 x1 x2 x3 = some out) : EE K (fr, 0, 0) 4 [some (.ref x0), some (.int x1), some (.int x2), some (.int x3)] [] h := by
  unfold b_X1_maskOf_4 at hf
  refine E_iload_n (pc := 4) O 3 dX1_maskOf_4 rfl rfl ?_
  refine E_aload_n (pc := 5) O 0 dX1_maskOf_5 rfl rfl ?_
  refine E_getI (pc := 6) O FL_RailSequence_Plant_62 dX1_maskOf_6 hf (fun v1 hf => ?_)
  refine E_icmp_ge (pc := 9) O 34 dX1_maskOf_9 (by decide) hf (fun hf => ?_) (fun hf => ?_)
  · refine E_iload_n (pc := 34) O 2 dX1_maskOf_34 rfl rfl ?_
    exact E_iretP (pc := 35) O Z hf ⟨(Nat.le_of_ble_eq_true rfl), (Nat.le_of_ble_eq_true rfl)⟩ dX1_maskOf_35
  · refine E_aload_n (pc := 12) O 0 dX1_maskOf_12 rfl rfl ?_
    refine E_getR (pc := 13) O FL_RailSequence_Plant_22 dX1_maskOf_13 hf (fun v2 hf => ?_)
    refine E_iload_n (pc := 16) O 3 dX1_maskOf_16 rfl rfl ?_
    refine E_iaload (pc := 17) O dX1_maskOf_17 hf (fun v3 hf => ?_)
    refine E_iload_n (pc := 18) O 1 dX1_maskOf_18 rfl rfl ?_
    refine E_icmp_ne (pc := 19) O 28 dX1_maskOf_19 (by decide) hf (fun hf => ?_) (fun hf => ?_)
    · exact t_b_X1_maskOf_28 O Z _ hr4 x0 x1 x2 x3 hf
    · refine E_iload_n (pc := 22) O 2 dX1_maskOf_22 rfl rfl ?_
      refine E_iconst (pc := 23) O (1 : Int32) dX1_maskOf_23 (by decide) ?_
      refine E_iload_n (pc := 24) O 3 dX1_maskOf_24 rfl rfl ?_
      refine E_ishl (pc := 25) O dX1_maskOf_25 ?_
      refine E_ior (pc := 26) O dX1_maskOf_26 ?_
      obtain ⟨v4, ev4, hf⟩ := ob hf
      have ev4 := os ev4
      rw [ev4]
      refine E_istore_n (pc := 27) O 2 [some (.ref x0), some (.int x1), some (.int v4), some (.int x3)] dX1_maskOf_27 rfl (by decide) rfl rfl ?_
      exact t_b_X1_maskOf_28 O Z _ hr4 x0 x1 v4 x3 hf
theorem t_f_X1_maskOf_4 {K : Cx} {fr : Bool} {out : Int32} {h : MH} (O : Ok K yX1_maskOf.cls cX1_maskOf 4 (rmm 0 0 0 0)) (Z : Out K (some .int) fr (some (.int out)) h) : ∀ (n : Nat) (x0 : Nat) (x1 : Int32) (x2 : Int32) (x3 : Int32), f_X1_maskOf_4 h n x0 x1 x2 x3 = some out → EE K (fr, 0, 0) 4 [some (.ref x0), some (.int x1), some (.int x2), some (.int x3)] [] h := by
  intro n
  induction n with
  | zero => intro x0 x1 x2 x3 hf; cases hf
  | succ n ih => intro x0 x1 x2 x3 hf; exact t_b_X1_maskOf_4 O Z _ ih x0 x1 x2 x3 hf
set_option maxHeartbeats 4000000 in
set_option maxRecDepth 100000 in
theorem t_X1_maskOf {g : Gx} {fr : Bool} {h : MH} {x0 x1} {out : Int32} (hf : f_X1_maskOf h x0 x1 = some out) : MM g yX1_maskOf cX1_maskOf 4 (some .int) 0 0 0 0 fr fr [.ref x0, .int x1] h (some (.int out)) h := by
  unfold f_X1_maskOf at hf
  refine MM_of (L := [some (.ref x0), some (.int x1), none, none]) (by decide) (Nat.le_of_ble_eq_true rfl) rfl (fun K hK O Z hn => ?_)
  refine E_iconst (pc := 0) O (0 : Int32) dX1_maskOf_0 (by decide) ?_
  refine E_istore_n (pc := 1) O 2 [some (.ref x0), some (.int x1), some (.int (0 : Int32)), none] dX1_maskOf_1 rfl (by decide) rfl rfl ?_
  refine E_iconst (pc := 2) O (0 : Int32) dX1_maskOf_2 (by decide) ?_
  refine E_istore_n (pc := 3) O 3 [some (.ref x0), some (.int x1), some (.int (0 : Int32)), some (.int (0 : Int32))] dX1_maskOf_3 rfl (by decide) rfl rfl ?_
  exact t_f_X1_maskOf_4 O Z FU x0 x1 (0 : Int32) (0 : Int32) hf
set_option maxHeartbeats 4000000 in
set_option maxRecDepth 100000 in
theorem t_b_X1_sumOfVoltages_4 {K : Cx} {fr : Bool} {out : Int32} {h : MH} (O : Ok K yX1_sumOfVoltages.cls cX1_sumOfVoltages 3 (rmm 0 0 0 0)) (Z : Out K (some .int) fr (some (.int out)) h) (rec4 : Nat → Int32 → Int32 → Option Int32) (hr4 : ∀ (x0 : Nat) (x1 : Int32) (x2 : Int32), rec4 x0 x1 x2 = some out → EE K (fr, 0, 0) 4 [some (.ref x0), some (.int x1), some (.int x2)] [] h) (x0 : Nat) (x1 : Int32) (x2 : Int32) (hf : b_X1_sumOfVoltages_4 h rec4 x0 x1 x2 = some out) : EE K (fr, 0, 0) 4 [some (.ref x0), some (.int x1), some (.int x2)] [] h := by
  unfold b_X1_sumOfVoltages_4 at hf
  refine E_iload_n (pc := 4) O 2 dX1_sumOfVoltages_4 rfl rfl ?_
  refine E_aload_n (pc := 5) O 0 dX1_sumOfVoltages_5 rfl rfl ?_
  refine E_getI (pc := 6) O FL_RailSequence_Plant_62 dX1_sumOfVoltages_6 hf (fun v1 hf => ?_)
  refine E_icmp_ge (pc := 9) O 27 dX1_sumOfVoltages_9 (by decide) hf (fun hf => ?_) (fun hf => ?_)
  · refine E_iload_n (pc := 27) O 1 dX1_sumOfVoltages_27 rfl rfl ?_
    exact E_iretP (pc := 28) O Z hf ⟨(Nat.le_of_ble_eq_true rfl), (Nat.le_of_ble_eq_true rfl)⟩ dX1_sumOfVoltages_28
  · refine E_iload_n (pc := 12) O 1 dX1_sumOfVoltages_12 rfl rfl ?_
    refine E_aload_n (pc := 13) O 0 dX1_sumOfVoltages_13 rfl rfl ?_
    refine E_getR (pc := 14) O FL_RailSequence_Plant_25 dX1_sumOfVoltages_14 hf (fun v2 hf => ?_)
    refine E_iload_n (pc := 17) O 2 dX1_sumOfVoltages_17 rfl rfl ?_
    refine E_iaload (pc := 18) O dX1_sumOfVoltages_18 hf (fun v3 hf => ?_)
    refine E_iadd (pc := 19) O dX1_sumOfVoltages_19 ?_
    obtain ⟨v4, ev4, hf⟩ := ob hf
    have ev4 := os ev4
    rw [ev4]
    refine E_istore_n (pc := 20) O 1 [some (.ref x0), some (.int v4), some (.int x2)] dX1_sumOfVoltages_20 rfl (by decide) rfl rfl ?_
    refine E_iinc (pc := 21) O (1 : Int32) [some (.ref x0), some (.int v4), some (.int (x2 + (1 : Int32)))] dX1_sumOfVoltages_21 rfl (by decide) rfl (by decide) rfl ?_
    refine E_goto (pc := 24) O 4 dX1_sumOfVoltages_24 (by decide) ?_
    exact hr4 x0 v4 (x2 + (1 : Int32)) hf
theorem t_f_X1_sumOfVoltages_4 {K : Cx} {fr : Bool} {out : Int32} {h : MH} (O : Ok K yX1_sumOfVoltages.cls cX1_sumOfVoltages 3 (rmm 0 0 0 0)) (Z : Out K (some .int) fr (some (.int out)) h) : ∀ (n : Nat) (x0 : Nat) (x1 : Int32) (x2 : Int32), f_X1_sumOfVoltages_4 h n x0 x1 x2 = some out → EE K (fr, 0, 0) 4 [some (.ref x0), some (.int x1), some (.int x2)] [] h := by
  intro n
  induction n with
  | zero => intro x0 x1 x2 hf; cases hf
  | succ n ih => intro x0 x1 x2 hf; exact t_b_X1_sumOfVoltages_4 O Z _ ih x0 x1 x2 hf
set_option maxHeartbeats 4000000 in
set_option maxRecDepth 100000 in
theorem t_X1_sumOfVoltages {g : Gx} {fr : Bool} {h : MH} {x0} {out : Int32} (hf : f_X1_sumOfVoltages h x0 = some out) : MM g yX1_sumOfVoltages cX1_sumOfVoltages 3 (some .int) 0 0 0 0 fr fr [.ref x0] h (some (.int out)) h := by
  unfold f_X1_sumOfVoltages at hf
  refine MM_of (L := [some (.ref x0), none, none]) (by decide) (Nat.le_of_ble_eq_true rfl) rfl (fun K hK O Z hn => ?_)
  refine E_iconst (pc := 0) O (0 : Int32) dX1_sumOfVoltages_0 (by decide) ?_
  refine E_istore_n (pc := 1) O 1 [some (.ref x0), some (.int (0 : Int32)), none] dX1_sumOfVoltages_1 rfl (by decide) rfl rfl ?_
  refine E_iconst (pc := 2) O (0 : Int32) dX1_sumOfVoltages_2 (by decide) ?_
  refine E_istore_n (pc := 3) O 2 [some (.ref x0), some (.int (0 : Int32)), some (.int (0 : Int32))] dX1_sumOfVoltages_3 rfl (by decide) rfl rfl ?_
  exact t_f_X1_sumOfVoltages_4 O Z FU x0 (0 : Int32) (0 : Int32) hf
