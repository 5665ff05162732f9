/-! walks: the machine does what the plain functions say: written by program -/
set_option maxHeartbeats 4000000 in
set_option maxRecDepth 100000 in
theorem t_b_Jxe99ae_isNaN_b9ae7_11 {K : Cx} {fr : Bool} {out : Int32} {h : MH} (O : Ok K yJxe99ae_isNaN_b9ae7.cls cJxe99ae_isNaN_b9ae7 2 (rmm 0 0 0 0)) (Z : Out K (some .boolean) fr (some (.int out)) h) (s0 : Int32) (hf : b_Jxe99ae_isNaN_b9ae7_11 h s0 = some out) : EE K (fr, 0, 0) 11 [none, none] [.int s0] h := by
  unfold b_Jxe99ae_isNaN_b9ae7_11 at hf
  exact E_zretP (pc := 11) O Z hf ⟨(Nat.le_of_ble_eq_true rfl), (Nat.le_of_ble_eq_true rfl)⟩ dJxe99ae_isNaN_b9ae7_11
set_option maxHeartbeats 4000000 in
set_option maxRecDepth 100000 in
theorem t_Jxe99ae_isNaN_b9ae7 {g : Gx} {fr : Bool} {h : MH} {x0} {out : Int32} (hf : f_Jxe99ae_isNaN_b9ae7 h x0 = some out) : MM g yJxe99ae_isNaN_b9ae7 cJxe99ae_isNaN_b9ae7 2 (some .boolean) 0 0 0 0 fr fr [.double x0] h (some (.int out)) h := by
  unfold f_Jxe99ae_isNaN_b9ae7 at hf
  refine MM_of (L := [some (.double x0), none]) (by decide) (Nat.le_of_ble_eq_true rfl) rfl (fun K hK O Z hn => ?_)
  refine E_dload_n (pc := 0) O 0 dJxe99ae_isNaN_b9ae7_0 rfl rfl ?_
  refine E_dload_n (pc := 1) O 0 dJxe99ae_isNaN_b9ae7_1 rfl rfl ?_
  refine E_dcmp (pc := 2) O dJxe99ae_isNaN_b9ae7_2 ?_
  refine E_if_eq (pc := 3) O 10 dJxe99ae_isNaN_b9ae7_3 (by decide) hf (fun hf => ?_) (fun hf => ?_)
  · refine E_iconst (pc := 10) O (0 : Int32) dJxe99ae_isNaN_b9ae7_10 (by decide) ?_
    exact E_sub (L' := [none, none]) True.intro (t_b_Jxe99ae_isNaN_b9ae7_11 O Z (0 : Int32) hf)
  · refine E_iconst (pc := 6) O (1 : Int32) dJxe99ae_isNaN_b9ae7_6 (by decide) ?_
    refine E_goto (pc := 7) O 11 dJxe99ae_isNaN_b9ae7_7 (by decide) ?_
    exact E_sub (L' := [none, none]) True.intro (t_b_Jxe99ae_isNaN_b9ae7_11 O Z (1 : Int32) hf)
set_option maxHeartbeats 4000000 in
set_option maxRecDepth 100000 in
theorem t_Jxe99ae_doubleToLongBits_ccdee {g : Gx} {fr : Bool} {h : MH} {x0} {out : Int64} (hf : f_Jxe99ae_doubleToLongBits_ccdee h x0 = some out) : MM g yJxe99ae_doubleToLongBits_ccdee cJxe99ae_doubleToLongBits_ccdee 2 (some .long) 1 60 0 0 fr fr [.double x0] h (some (.long out)) h := by
  unfold f_Jxe99ae_doubleToLongBits_ccdee at hf
  refine MM_of (L := [some (.double x0), none]) (by decide) (Nat.le_of_ble_eq_true rfl) rfl (fun K hK O Z hn => ?_)
  refine E_dload_n (pc := 0) O 0 dJxe99ae_doubleToLongBits_ccdee_0 rfl rfl ?_
  refine E_callS_iP (pc := 1) (S := []) O [.double x0] CS_java_lang_Double_122 (fun r e => t_Jxe99ae_isNaN_b9ae7 e) dJxe99ae_doubleToLongBits_ccdee_1 hf rfl ⟨(Nat.le_of_ble_eq_true rfl), (Nat.le_of_ble_eq_true rfl)⟩ ⟨(Nat.le_of_ble_eq_true rfl), (Nat.le_of_ble_eq_true rfl)⟩ (Nat.le_of_ble_eq_true rfl) (fun v1 hf => ?_)
  refine E_if_ne (pc := 4) O 12 dJxe99ae_doubleToLongBits_ccdee_4 (by decide) hf (fun hf => ?_) (fun hf => ?_)
  · refine E_ldc2l (pc := 12) O (9221120237041090560 : Int64) (aw5 126 (by decide +kernel) rfl) dJxe99ae_doubleToLongBits_ccdee_12 ?_
    exact E_lretP (pc := 15) O Z hf ⟨(Nat.le_of_ble_eq_true rfl), (Nat.le_of_ble_eq_true rfl)⟩ dJxe99ae_doubleToLongBits_ccdee_15
  · refine E_dload_n (pc := 7) O 0 dJxe99ae_doubleToLongBits_ccdee_7 rfl rfl ?_
    refine E_d2rl (pc := 8) O (aw5 123 (by decide +kernel) rfl) (aw5 125 (by decide +kernel) rfl) (aw5 124 (by decide +kernel) rfl) (aw1 14 (by decide +kernel) rfl) (Nat.le_of_ble_eq_true rfl) (Nat.le_of_ble_eq_true rfl) dJxe99ae_doubleToLongBits_ccdee_8 ?_
    exact E_lretP (pc := 11) O Z hf ⟨(Nat.le_of_ble_eq_true rfl), (Nat.le_of_ble_eq_true rfl)⟩ dJxe99ae_doubleToLongBits_ccdee_11
