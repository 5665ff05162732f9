/-! walks: the machine does what the plain functions say: written by program -/
set_option maxHeartbeats 4000000 in
set_option maxRecDepth 100000 in
theorem t_L_addRail {g : Gx} {fr : Bool} {h : MH} {x0 x1 x2 x3 x4 x5} {out : (Int32 × MH)} (hf : f_L_addRail h x0 x1 x2 x3 x4 x5 = some out) : MH_ g yL_addRail cL_addRail 7 (some .int) [(0, 14, 17, 13), (0, 14, 21, 15)] 7 146 fr [.ref x0, .int x1, .int x2, .int x3, .int x4, .ref x5] h (some (.int out.1)) out.2 := by
  unfold f_L_addRail at hf
  refine MH_of (L := [some (.ref x0), some (.int x1), some (.int x2), some (.int x3), some (.int x4), some (.ref x5), none]) (by decide) (Nat.le_of_ble_eq_true rfl) rfl (fun K hK O Z hT => ?_)
  refine E_aload (pc := 0) O dL_addRail_0 rfl ?_
  refine E_iconst (pc := 2) O (0 : Int32) dL_addRail_2 (by decide) ?_
  refine E_aload_n (pc := 3) O 0 dL_addRail_3 rfl rfl ?_
  refine E_iload_n (pc := 4) O 1 dL_addRail_4 rfl rfl ?_
  refine E_iload_n (pc := 5) O 2 dL_addRail_5 rfl rfl ?_
  refine E_iload_n (pc := 6) O 3 dL_addRail_6 rfl rfl ?_
  refine E_iload (pc := 7) O dL_addRail_7 rfl ?_
  refine E_callVX (pc := 9) (S := [.int (0 : Int32), .ref x5]) O [.int x1, .int x2, .int x3, .int x4] CV_RailSequenceLaw_7 rfl (fun r e => t_X3_addRail e) dL_addRail_9 hf rfl ⟨(Nat.le_of_ble_eq_true rfl), (Nat.le_of_ble_eq_true rfl)⟩ ⟨(Nat.le_of_ble_eq_true rfl), (Nat.le_of_ble_eq_true rfl)⟩ (Nat.le_of_ble_eq_true rfl) (fun q hf => ?_) (fun q hf => ?_)
  · refine E_i2l (pc := 12) O dL_addRail_12 ?_
    refine E_lastore (pc := 13) O dL_addRail_13 hf (fun h2 hf => ?_)
    refine E_goto (pc := 14) O 25 dL_addRail_14 (by decide) ?_
    refine E_iconst (pc := 25) O (0 : Int32) dL_addRail_25 (by decide) ?_
    exact E_iret (pc := 26) O Z hf ⟨(Nat.le_of_ble_eq_true rfl), (Nat.le_of_ble_eq_true rfl)⟩ dL_addRail_26
  · refine E_ite hf (fun cq0 hf => ?_) (fun nq0 hf => ?_)
    · refine E_catch (pc := 9) (name := "java/lang/IllegalArgumentException") (i := 6) O hT [] (0, 14, 17, 13) [(0, 14, 21, 15)] [some (.ref x0), some (.int x1), some (.int x2), some (.int x3), some (.int x4), some (.ref x5), none] rfl (fun z hz => nomatch hz) (by decide) (by decide) (aw2 142 (by decide +kernel) rfl) (by rw [cq0]; rfl) (List.mem_filter.mpr ⟨List.mem_append_right _ (List.mem_append_left _ (List.mem_of_getElem? (i := 155) (by decide +kernel))), rfl⟩) (by decide) rfl rfl (Or.inl ⟨dL_addRail_17, rfl⟩) ?_
      refine E_iconst (pc := 19) O (1 : Int32) dL_addRail_19 (by decide) ?_
      exact E_iret (pc := 20) O Z hf ⟨(Nat.le_of_ble_eq_true rfl), (Nat.le_of_ble_eq_true rfl)⟩ dL_addRail_20
    · refine E_ite hf (fun cq1 hf => ?_) (fun nq1 hf => ?_)
      · refine E_catch (pc := 9) (name := "java/lang/IllegalStateException") (i := 6) O hT [(0, 14, 17, 13)] (0, 14, 21, 15) [] [some (.ref x0), some (.int x1), some (.int x2), some (.int x3), some (.int x4), some (.ref x5), none] rfl (fun z hz => by rw [List.mem_singleton.mp hz]; exact ⟨by decide, "java/lang/IllegalArgumentException", (aw2 142 (by decide +kernel) rfl), by rw [cq1]; decide⟩) (by decide) (by decide) (aw2 143 (by decide +kernel) rfl) (by rw [cq1]; rfl) (List.mem_filter.mpr ⟨List.mem_append_right _ (List.mem_append_left _ (List.mem_of_getElem? (i := 231) (by decide +kernel))), rfl⟩) (by decide) rfl rfl (Or.inl ⟨dL_addRail_21, rfl⟩) ?_
        refine E_iconst (pc := 23) O (2 : Int32) dL_addRail_23 (by decide) ?_
        exact E_iret (pc := 24) O Z hf ⟨(Nat.le_of_ble_eq_true rfl), (Nat.le_of_ble_eq_true rfl)⟩ dL_addRail_24
      · cases hf
set_option maxHeartbeats 4000000 in
set_option maxRecDepth 100000 in
theorem t_L_set {g : Gx} {fr : Bool} {h : MH} {x0 x1 x2 x3 x4} {out : (Int32 × MH)} (hf : f_L_set h x0 x1 x2 x3 x4 = some out) : MH_ g yL_set cL_set 6 (some .int) [(0, 12, 15, 21), (0, 12, 19, 13)] 7 146 fr [.ref x0, .int x1, .int x2, .int x3, .ref x4] h (some (.int out.1)) out.2 := by
  unfold f_L_set at hf
  refine MH_of (L := [some (.ref x0), some (.int x1), some (.int x2), some (.int x3), some (.ref x4), none]) (by decide) (Nat.le_of_ble_eq_true rfl) rfl (fun K hK O Z hT => ?_)
  refine E_aload (pc := 0) O dL_set_0 rfl ?_
  refine E_iconst (pc := 2) O (0 : Int32) dL_set_2 (by decide) ?_
  refine E_aload_n (pc := 3) O 0 dL_set_3 rfl rfl ?_
  refine E_iload_n (pc := 4) O 1 dL_set_4 rfl rfl ?_
  refine E_iload_n (pc := 5) O 2 dL_set_5 rfl rfl ?_
  refine E_iload_n (pc := 6) O 3 dL_set_6 rfl rfl ?_
  refine E_callVX (pc := 7) (S := [.int (0 : Int32), .ref x4]) O [.int x1, .int x2, .int x3] CV_RailSequenceLaw_17 rfl (fun r e => t_X3_set e) dL_set_7 hf rfl ⟨(Nat.le_of_ble_eq_true rfl), (Nat.le_of_ble_eq_true rfl)⟩ ⟨(Nat.le_of_ble_eq_true rfl), (Nat.le_of_ble_eq_true rfl)⟩ (Nat.le_of_ble_eq_true rfl) (fun q hf => ?_) (fun q hf => ?_)
  · refine E_i2l (pc := 10) O dL_set_10 ?_
    refine E_lastore (pc := 11) O dL_set_11 hf (fun h2 hf => ?_)
    refine E_goto (pc := 12) O 23 dL_set_12 (by decide) ?_
    refine E_iconst (pc := 23) O (0 : Int32) dL_set_23 (by decide) ?_
    exact E_iret (pc := 24) O Z hf ⟨(Nat.le_of_ble_eq_true rfl), (Nat.le_of_ble_eq_true rfl)⟩ dL_set_24
  · refine E_ite hf (fun cq0 hf => ?_) (fun nq0 hf => ?_)
    · refine E_catch (pc := 7) (name := "java/lang/IndexOutOfBoundsException") (i := 5) O hT [] (0, 12, 15, 21) [(0, 12, 19, 13)] [some (.ref x0), some (.int x1), some (.int x2), some (.int x3), some (.ref x4), none] rfl (fun z hz => nomatch hz) (by decide) (by decide) (aw3 20 (by decide +kernel) rfl) (by rw [cq0]; rfl) (List.mem_filter.mpr ⟨List.mem_append_right _ (List.mem_append_right _ (List.mem_append_left _ (List.mem_of_getElem? (i := 31) (by decide +kernel)))), rfl⟩) (by decide) rfl rfl (Or.inl ⟨dL_set_15, rfl⟩) ?_
      refine E_iconst (pc := 17) O (1 : Int32) dL_set_17 (by decide) ?_
      exact E_iret (pc := 18) O Z hf ⟨(Nat.le_of_ble_eq_true rfl), (Nat.le_of_ble_eq_true rfl)⟩ dL_set_18
    · refine E_ite hf (fun cq1 hf => ?_) (fun nq1 hf => ?_)
      · refine E_catch (pc := 7) (name := "java/lang/IllegalArgumentException") (i := 5) O hT [(0, 12, 15, 21)] (0, 12, 19, 13) [] [some (.ref x0), some (.int x1), some (.int x2), some (.int x3), some (.ref x4), none] rfl (fun z hz => by rw [List.mem_singleton.mp hz]; exact ⟨by decide, "java/lang/IndexOutOfBoundsException", (aw3 20 (by decide +kernel) rfl), by rw [cq1]; decide⟩) (by decide) (by decide) (aw2 142 (by decide +kernel) rfl) (by rw [cq1]; rfl) (List.mem_filter.mpr ⟨List.mem_append_right _ (List.mem_append_left _ (List.mem_of_getElem? (i := 155) (by decide +kernel))), rfl⟩) (by decide) rfl rfl (Or.inl ⟨dL_set_19, rfl⟩) ?_
        refine E_iconst (pc := 21) O (2 : Int32) dL_set_21 (by decide) ?_
        exact E_iret (pc := 22) O Z hf ⟨(Nat.le_of_ble_eq_true rfl), (Nat.le_of_ble_eq_true rfl)⟩ dL_set_22
      · cases hf
set_option maxHeartbeats 4000000 in
set_option maxRecDepth 100000 in
theorem t_L_setNeeds {g : Gx} {fr : Bool} {h : MH} {x0 x1 x2 x3} {out : (Int32 × MH)} (hf : f_L_setNeeds h x0 x1 x2 x3 = some out) : MH_ g yL_setNeeds cL_setNeeds 5 (some .int) [(0, 10, 13, 21), (0, 10, 17, 13), (0, 10, 21, 15)] 7 145 fr [.ref x0, .int x1, .int x2, .ref x3] h (some (.int out.1)) out.2 := by
  unfold f_L_setNeeds at hf
  refine MH_of (L := [some (.ref x0), some (.int x1), some (.int x2), some (.ref x3), none]) (by decide) (Nat.le_of_ble_eq_true rfl) rfl (fun K hK O Z hT => ?_)
  refine E_aload_n (pc := 0) O 3 dL_setNeeds_0 rfl rfl ?_
  refine E_iconst (pc := 1) O (0 : Int32) dL_setNeeds_1 (by decide) ?_
  refine E_aload_n (pc := 2) O 0 dL_setNeeds_2 rfl rfl ?_
  refine E_iload_n (pc := 3) O 1 dL_setNeeds_3 rfl rfl ?_
  refine E_iload_n (pc := 4) O 2 dL_setNeeds_4 rfl rfl ?_
  refine E_callVX (pc := 5) (S := [.int (0 : Int32), .ref x3]) O [.int x1, .int x2] CV_RailSequenceLaw_23 rfl (fun r e => t_X3_setNeeds e) dL_setNeeds_5 hf rfl ⟨(Nat.le_of_ble_eq_true rfl), (Nat.le_of_ble_eq_true rfl)⟩ ⟨(Nat.le_of_ble_eq_true rfl), (Nat.le_of_ble_eq_true rfl)⟩ (Nat.le_of_ble_eq_true rfl) (fun q hf => ?_) (fun q hf => ?_)
  · refine E_i2l (pc := 8) O dL_setNeeds_8 ?_
    refine E_lastore (pc := 9) O dL_setNeeds_9 hf (fun h2 hf => ?_)
    refine E_goto (pc := 10) O 25 dL_setNeeds_10 (by decide) ?_
    refine E_iconst (pc := 25) O (0 : Int32) dL_setNeeds_25 (by decide) ?_
    exact E_iret (pc := 26) O Z hf ⟨(Nat.le_of_ble_eq_true rfl), (Nat.le_of_ble_eq_true rfl)⟩ dL_setNeeds_26
  · refine E_ite hf (fun cq0 hf => ?_) (fun nq0 hf => ?_)
    · refine E_catch (pc := 5) (name := "java/lang/IndexOutOfBoundsException") (i := 4) O hT [] (0, 10, 13, 21) [(0, 10, 17, 13), (0, 10, 21, 15)] [some (.ref x0), some (.int x1), some (.int x2), some (.ref x3), none] rfl (fun z hz => nomatch hz) (by decide) (by decide) (aw3 20 (by decide +kernel) rfl) (by rw [cq0]; rfl) (List.mem_filter.mpr ⟨List.mem_append_right _ (List.mem_append_right _ (List.mem_append_left _ (List.mem_of_getElem? (i := 31) (by decide +kernel)))), rfl⟩) (by decide) rfl rfl (Or.inl ⟨dL_setNeeds_13, rfl⟩) ?_
      refine E_iconst (pc := 15) O (1 : Int32) dL_setNeeds_15 (by decide) ?_
      exact E_iret (pc := 16) O Z hf ⟨(Nat.le_of_ble_eq_true rfl), (Nat.le_of_ble_eq_true rfl)⟩ dL_setNeeds_16
    · refine E_ite hf (fun cq1 hf => ?_) (fun nq1 hf => ?_)
      · refine E_catch (pc := 5) (name := "java/lang/IllegalArgumentException") (i := 4) O hT [(0, 10, 13, 21)] (0, 10, 17, 13) [(0, 10, 21, 15)] [some (.ref x0), some (.int x1), some (.int x2), some (.ref x3), none] rfl (fun z hz => by rw [List.mem_singleton.mp hz]; exact ⟨by decide, "java/lang/IndexOutOfBoundsException", (aw3 20 (by decide +kernel) rfl), by rw [cq1]; decide⟩) (by decide) (by decide) (aw2 142 (by decide +kernel) rfl) (by rw [cq1]; rfl) (List.mem_filter.mpr ⟨List.mem_append_right _ (List.mem_append_left _ (List.mem_of_getElem? (i := 155) (by decide +kernel))), rfl⟩) (by decide) rfl rfl (Or.inl ⟨dL_setNeeds_17, rfl⟩) ?_
        refine E_iconst (pc := 19) O (2 : Int32) dL_setNeeds_19 (by decide) ?_
        exact E_iret (pc := 20) O Z hf ⟨(Nat.le_of_ble_eq_true rfl), (Nat.le_of_ble_eq_true rfl)⟩ dL_setNeeds_20
      · refine E_ite hf (fun cq2 hf => ?_) (fun nq2 hf => ?_)
        · refine E_catch (pc := 5) (name := "java/lang/IllegalStateException") (i := 4) O hT [(0, 10, 13, 21), (0, 10, 17, 13)] (0, 10, 21, 15) [] [some (.ref x0), some (.int x1), some (.int x2), some (.ref x3), none] rfl (fun z hz => (List.mem_cons.mp hz).elim (fun e => by rw [e]; exact ⟨by decide, "java/lang/IndexOutOfBoundsException", (aw3 20 (by decide +kernel) rfl), by rw [cq2]; decide⟩) (fun hz => by rw [List.mem_singleton.mp hz]; exact ⟨by decide, "java/lang/IllegalArgumentException", (aw2 142 (by decide +kernel) rfl), by rw [cq2]; decide⟩)) (by decide) (by decide) (aw2 143 (by decide +kernel) rfl) (by rw [cq2]; rfl) (List.mem_filter.mpr ⟨List.mem_append_right _ (List.mem_append_left _ (List.mem_of_getElem? (i := 231) (by decide +kernel))), rfl⟩) (by decide) rfl rfl (Or.inl ⟨dL_setNeeds_21, rfl⟩) ?_
          refine E_iconst (pc := 23) O (3 : Int32) dL_setNeeds_23 (by decide) ?_
          exact E_iret (pc := 24) O Z hf ⟨(Nat.le_of_ble_eq_true rfl), (Nat.le_of_ble_eq_true rfl)⟩ dL_setNeeds_24
        · cases hf
set_option maxHeartbeats 4000000 in
set_option maxRecDepth 100000 in
theorem t_L_setResidue {g : Gx} {fr : Bool} {h : MH} {x0 x1 x2} {out : (Int32 × MH)} (hf : f_L_setResidue h x0 x1 x2 = some out) : MH_ g yL_setResidue cL_setResidue 4 (some .int) [(0, 9, 12, 13)] 7 144 fr [.ref x0, .int x1, .ref x2] h (some (.int out.1)) out.2 := by
  unfold f_L_setResidue at hf
  refine MH_of (L := [some (.ref x0), some (.int x1), some (.ref x2), none]) (by decide) (Nat.le_of_ble_eq_true rfl) rfl (fun K hK O Z hT => ?_)
  refine E_aload_n (pc := 0) O 2 dL_setResidue_0 rfl rfl ?_
  refine E_iconst (pc := 1) O (0 : Int32) dL_setResidue_1 (by decide) ?_
  refine E_aload_n (pc := 2) O 0 dL_setResidue_2 rfl rfl ?_
  refine E_iload_n (pc := 3) O 1 dL_setResidue_3 rfl rfl ?_
  refine E_callVX (pc := 4) (S := [.int (0 : Int32), .ref x2]) O [.int x1] CV_RailSequenceLaw_27 rfl (fun r e => t_X3_setResidue e) dL_setResidue_4 hf rfl ⟨(Nat.le_of_ble_eq_true rfl), (Nat.le_of_ble_eq_true rfl)⟩ ⟨(Nat.le_of_ble_eq_true rfl), (Nat.le_of_ble_eq_true rfl)⟩ (Nat.le_of_ble_eq_true rfl) (fun q hf => ?_) (fun q hf => ?_)
  · refine E_i2l (pc := 7) O dL_setResidue_7 ?_
    refine E_lastore (pc := 8) O dL_setResidue_8 hf (fun h2 hf => ?_)
    refine E_goto (pc := 9) O 15 dL_setResidue_9 (by decide) ?_
    refine E_iconst (pc := 15) O (0 : Int32) dL_setResidue_15 (by decide) ?_
    exact E_iret (pc := 16) O Z hf ⟨(Nat.le_of_ble_eq_true rfl), (Nat.le_of_ble_eq_true rfl)⟩ dL_setResidue_16
  · refine E_ite hf (fun cq0 hf => ?_) (fun nq0 hf => ?_)
    · refine E_catch (pc := 4) (name := "java/lang/IllegalArgumentException") (i := 3) O hT [] (0, 9, 12, 13) [] [some (.ref x0), some (.int x1), some (.ref x2), none] rfl (fun z hz => nomatch hz) (by decide) (by decide) (aw2 142 (by decide +kernel) rfl) (by rw [cq0]; rfl) (List.mem_filter.mpr ⟨List.mem_append_right _ (List.mem_append_left _ (List.mem_of_getElem? (i := 155) (by decide +kernel))), rfl⟩) (by decide) rfl rfl (Or.inr ⟨⟨_, rfl, dL_setResidue_12⟩, rfl⟩) ?_
      refine E_iconst (pc := 13) O (1 : Int32) dL_setResidue_13 (by decide) ?_
      exact E_iret (pc := 14) O Z hf ⟨(Nat.le_of_ble_eq_true rfl), (Nat.le_of_ble_eq_true rfl)⟩ dL_setResidue_14
    · cases hf
set_option maxHeartbeats 4000000 in
set_option maxRecDepth 100000 in
theorem t_L_on {g : Gx} {fr : Bool} {h : MH} {x0 x1 x2} {out : (Int32 × MH)} (hf : f_L_on h x0 x1 x2 = some out) : MH_ g yL_on cL_on 4 (some .int) [(0, 9, 12, 13)] 7 143 fr [.ref x0, .int x1, .ref x2] h (some (.int out.1)) out.2 := by
  unfold f_L_on at hf
  refine MH_of (L := [some (.ref x0), some (.int x1), some (.ref x2), none]) (by decide) (Nat.le_of_ble_eq_true rfl) rfl (fun K hK O Z hT => ?_)
  refine E_aload_n (pc := 0) O 2 dL_on_0 rfl rfl ?_
  refine E_iconst (pc := 1) O (0 : Int32) dL_on_1 (by decide) ?_
  refine E_aload_n (pc := 2) O 0 dL_on_2 rfl rfl ?_
  refine E_iload_n (pc := 3) O 1 dL_on_3 rfl rfl ?_
  refine E_callVX (pc := 4) (S := [.int (0 : Int32), .ref x2]) O [.int x1] CV_RailSequenceLaw_31 rfl (fun r e => t_X3_on e) dL_on_4 hf rfl ⟨(Nat.le_of_ble_eq_true rfl), (Nat.le_of_ble_eq_true rfl)⟩ ⟨(Nat.le_of_ble_eq_true rfl), (Nat.le_of_ble_eq_true rfl)⟩ (Nat.le_of_ble_eq_true rfl) (fun q hf => ?_) (fun q hf => ?_)
  · refine E_i2l (pc := 7) O dL_on_7 ?_
    refine E_lastore (pc := 8) O dL_on_8 hf (fun h2 hf => ?_)
    refine E_goto (pc := 9) O 15 dL_on_9 (by decide) ?_
    refine E_iconst (pc := 15) O (0 : Int32) dL_on_15 (by decide) ?_
    exact E_iret (pc := 16) O Z hf ⟨(Nat.le_of_ble_eq_true rfl), (Nat.le_of_ble_eq_true rfl)⟩ dL_on_16
  · refine E_ite hf (fun cq0 hf => ?_) (fun nq0 hf => ?_)
    · refine E_catch (pc := 4) (name := "java/lang/IllegalArgumentException") (i := 3) O hT [] (0, 9, 12, 13) [] [some (.ref x0), some (.int x1), some (.ref x2), none] rfl (fun z hz => nomatch hz) (by decide) (by decide) (aw2 142 (by decide +kernel) rfl) (by rw [cq0]; rfl) (List.mem_filter.mpr ⟨List.mem_append_right _ (List.mem_append_left _ (List.mem_of_getElem? (i := 155) (by decide +kernel))), rfl⟩) (by decide) rfl rfl (Or.inr ⟨⟨_, rfl, dL_on_12⟩, rfl⟩) ?_
      refine E_iconst (pc := 13) O (1 : Int32) dL_on_13 (by decide) ?_
      exact E_iret (pc := 14) O Z hf ⟨(Nat.le_of_ble_eq_true rfl), (Nat.le_of_ble_eq_true rfl)⟩ dL_on_14
    · cases hf
set_option maxHeartbeats 4000000 in
set_option maxRecDepth 100000 in
theorem t_L_off {g : Gx} {fr : Bool} {h : MH} {x0 x1 x2} {out : (Int32 × MH)} (hf : f_L_off h x0 x1 x2 = some out) : MH_ g yL_off cL_off 4 (some .int) [(0, 9, 12, 13)] 7 143 fr [.ref x0, .int x1, .ref x2] h (some (.int out.1)) out.2 := by
  unfold f_L_off at hf
  refine MH_of (L := [some (.ref x0), some (.int x1), some (.ref x2), none]) (by decide) (Nat.le_of_ble_eq_true rfl) rfl (fun K hK O Z hT => ?_)
  refine E_aload_n (pc := 0) O 2 dL_off_0 rfl rfl ?_
  refine E_iconst (pc := 1) O (0 : Int32) dL_off_1 (by decide) ?_
  refine E_aload_n (pc := 2) O 0 dL_off_2 rfl rfl ?_
  refine E_iload_n (pc := 3) O 1 dL_off_3 rfl rfl ?_
  refine E_callVX (pc := 4) (S := [.int (0 : Int32), .ref x2]) O [.int x1] CV_RailSequenceLaw_34 rfl (fun r e => t_X3_off e) dL_off_4 hf rfl ⟨(Nat.le_of_ble_eq_true rfl), (Nat.le_of_ble_eq_true rfl)⟩ ⟨(Nat.le_of_ble_eq_true rfl), (Nat.le_of_ble_eq_true rfl)⟩ (Nat.le_of_ble_eq_true rfl) (fun q hf => ?_) (fun q hf => ?_)
  · refine E_i2l (pc := 7) O dL_off_7 ?_
    refine E_lastore (pc := 8) O dL_off_8 hf (fun h2 hf => ?_)
    refine E_goto (pc := 9) O 15 dL_off_9 (by decide) ?_
    refine E_iconst (pc := 15) O (0 : Int32) dL_off_15 (by decide) ?_
    exact E_iret (pc := 16) O Z hf ⟨(Nat.le_of_ble_eq_true rfl), (Nat.le_of_ble_eq_true rfl)⟩ dL_off_16
  · refine E_ite hf (fun cq0 hf => ?_) (fun nq0 hf => ?_)
    · refine E_catch (pc := 4) (name := "java/lang/IllegalArgumentException") (i := 3) O hT [] (0, 9, 12, 13) [] [some (.ref x0), some (.int x1), some (.ref x2), none] rfl (fun z hz => nomatch hz) (by decide) (by decide) (aw2 142 (by decide +kernel) rfl) (by rw [cq0]; rfl) (List.mem_filter.mpr ⟨List.mem_append_right _ (List.mem_append_left _ (List.mem_of_getElem? (i := 155) (by decide +kernel))), rfl⟩) (by decide) rfl rfl (Or.inr ⟨⟨_, rfl, dL_off_12⟩, rfl⟩) ?_
      refine E_iconst (pc := 13) O (1 : Int32) dL_off_13 (by decide) ?_
      exact E_iret (pc := 14) O Z hf ⟨(Nat.le_of_ble_eq_true rfl), (Nat.le_of_ble_eq_true rfl)⟩ dL_off_14
    · cases hf
set_option maxHeartbeats 4000000 in
set_option maxRecDepth 100000 in
theorem t_L_restart {g : Gx} {fr : Bool} {h : MH} {x0 x1 x2} {out : (Int32 × MH)} (hf : f_L_restart h x0 x1 x2 = some out) : MH_ g yL_restart cL_restart 4 (some .int) [(0, 9, 12, 21), (0, 9, 15, 15)] 7 151 fr [.ref x0, .int x1, .ref x2] h (some (.int out.1)) out.2 := by
  unfold f_L_restart at hf
  refine MH_of (L := [some (.ref x0), some (.int x1), some (.ref x2), none]) (by decide) (Nat.le_of_ble_eq_true rfl) rfl (fun K hK O Z hT => ?_)
  refine E_aload_n (pc := 0) O 2 dL_restart_0 rfl rfl ?_
  refine E_iconst (pc := 1) O (0 : Int32) dL_restart_1 (by decide) ?_
  refine E_aload_n (pc := 2) O 0 dL_restart_2 rfl rfl ?_
  refine E_iload_n (pc := 3) O 1 dL_restart_3 rfl rfl ?_
  refine E_callVX (pc := 4) (S := [.int (0 : Int32), .ref x2]) O [.int x1] CV_RailSequenceLaw_37 rfl (fun r e => t_X3_restart e) dL_restart_4 hf rfl ⟨(Nat.le_of_ble_eq_true rfl), (Nat.le_of_ble_eq_true rfl)⟩ ⟨(Nat.le_of_ble_eq_true rfl), (Nat.le_of_ble_eq_true rfl)⟩ (Nat.le_of_ble_eq_true rfl) (fun q hf => ?_) (fun q hf => ?_)
  · refine E_i2l (pc := 7) O dL_restart_7 ?_
    refine E_lastore (pc := 8) O dL_restart_8 hf (fun h2 hf => ?_)
    refine E_goto (pc := 9) O 18 dL_restart_9 (by decide) ?_
    refine E_iconst (pc := 18) O (0 : Int32) dL_restart_18 (by decide) ?_
    exact E_iret (pc := 19) O Z hf ⟨(Nat.le_of_ble_eq_true rfl), (Nat.le_of_ble_eq_true rfl)⟩ dL_restart_19
  · refine E_ite hf (fun cq0 hf => ?_) (fun nq0 hf => ?_)
    · refine E_catch (pc := 4) (name := "java/lang/IndexOutOfBoundsException") (i := 3) O hT [] (0, 9, 12, 21) [(0, 9, 15, 15)] [some (.ref x0), some (.int x1), some (.ref x2), none] rfl (fun z hz => nomatch hz) (by decide) (by decide) (aw3 20 (by decide +kernel) rfl) (by rw [cq0]; rfl) (List.mem_filter.mpr ⟨List.mem_append_right _ (List.mem_append_right _ (List.mem_append_left _ (List.mem_of_getElem? (i := 31) (by decide +kernel)))), rfl⟩) (by decide) rfl rfl (Or.inr ⟨⟨_, rfl, dL_restart_12⟩, rfl⟩) ?_
      refine E_iconst (pc := 13) O (1 : Int32) dL_restart_13 (by decide) ?_
      exact E_iret (pc := 14) O Z hf ⟨(Nat.le_of_ble_eq_true rfl), (Nat.le_of_ble_eq_true rfl)⟩ dL_restart_14
    · refine E_ite hf (fun cq1 hf => ?_) (fun nq1 hf => ?_)
      · refine E_catch (pc := 4) (name := "java/lang/IllegalStateException") (i := 3) O hT [(0, 9, 12, 21)] (0, 9, 15, 15) [] [some (.ref x0), some (.int x1), some (.ref x2), none] rfl (fun z hz => by rw [List.mem_singleton.mp hz]; exact ⟨by decide, "java/lang/IndexOutOfBoundsException", (aw3 20 (by decide +kernel) rfl), by rw [cq1]; decide⟩) (by decide) (by decide) (aw2 143 (by decide +kernel) rfl) (by rw [cq1]; rfl) (List.mem_filter.mpr ⟨List.mem_append_right _ (List.mem_append_left _ (List.mem_of_getElem? (i := 231) (by decide +kernel))), rfl⟩) (by decide) rfl rfl (Or.inr ⟨⟨_, rfl, dL_restart_15⟩, rfl⟩) ?_
        refine E_iconst (pc := 16) O (2 : Int32) dL_restart_16 (by decide) ?_
        exact E_iret (pc := 17) O Z hf ⟨(Nat.le_of_ble_eq_true rfl), (Nat.le_of_ble_eq_true rfl)⟩ dL_restart_17
      · cases hf
set_option maxHeartbeats 4000000 in
set_option maxRecDepth 100000 in
theorem t_L_shortCircuit {g : Gx} {fr : Bool} {h : MH} {x0 x1 x2 x3} {out : (Int32 × MH)} (hf : f_L_shortCircuit h x0 x1 x2 x3 = some out) : MH_ g yL_shortCircuit cL_shortCircuit 5 (some .int) [(0, 10, 13, 21), (0, 10, 17, 13)] 7 145 fr [.ref x0, .int x1, .int x2, .ref x3] h (some (.int out.1)) out.2 := by
  unfold f_L_shortCircuit at hf
  refine MH_of (L := [some (.ref x0), some (.int x1), some (.int x2), some (.ref x3), none]) (by decide) (Nat.le_of_ble_eq_true rfl) rfl (fun K hK O Z hT => ?_)
  refine E_aload_n (pc := 0) O 3 dL_shortCircuit_0 rfl rfl ?_
  refine E_iconst (pc := 1) O (0 : Int32) dL_shortCircuit_1 (by decide) ?_
  refine E_aload_n (pc := 2) O 0 dL_shortCircuit_2 rfl rfl ?_
  refine E_iload_n (pc := 3) O 1 dL_shortCircuit_3 rfl rfl ?_
  refine E_iload_n (pc := 4) O 2 dL_shortCircuit_4 rfl rfl ?_
  refine E_callVX (pc := 5) (S := [.int (0 : Int32), .ref x3]) O [.int x1, .int x2] CV_RailSequenceLaw_40 rfl (fun r e => t_X3_shortCircuit e) dL_shortCircuit_5 hf rfl ⟨(Nat.le_of_ble_eq_true rfl), (Nat.le_of_ble_eq_true rfl)⟩ ⟨(Nat.le_of_ble_eq_true rfl), (Nat.le_of_ble_eq_true rfl)⟩ (Nat.le_of_ble_eq_true rfl) (fun q hf => ?_) (fun q hf => ?_)
  · refine E_i2l (pc := 8) O dL_shortCircuit_8 ?_
    refine E_lastore (pc := 9) O dL_shortCircuit_9 hf (fun h2 hf => ?_)
    refine E_goto (pc := 10) O 21 dL_shortCircuit_10 (by decide) ?_
    refine E_iconst (pc := 21) O (0 : Int32) dL_shortCircuit_21 (by decide) ?_
    exact E_iret (pc := 22) O Z hf ⟨(Nat.le_of_ble_eq_true rfl), (Nat.le_of_ble_eq_true rfl)⟩ dL_shortCircuit_22
  · refine E_ite hf (fun cq0 hf => ?_) (fun nq0 hf => ?_)
    · refine E_catch (pc := 5) (name := "java/lang/IndexOutOfBoundsException") (i := 4) O hT [] (0, 10, 13, 21) [(0, 10, 17, 13)] [some (.ref x0), some (.int x1), some (.int x2), some (.ref x3), none] rfl (fun z hz => nomatch hz) (by decide) (by decide) (aw3 20 (by decide +kernel) rfl) (by rw [cq0]; rfl) (List.mem_filter.mpr ⟨List.mem_append_right _ (List.mem_append_right _ (List.mem_append_left _ (List.mem_of_getElem? (i := 31) (by decide +kernel)))), rfl⟩) (by decide) rfl rfl (Or.inl ⟨dL_shortCircuit_13, rfl⟩) ?_
      refine E_iconst (pc := 15) O (1 : Int32) dL_shortCircuit_15 (by decide) ?_
      exact E_iret (pc := 16) O Z hf ⟨(Nat.le_of_ble_eq_true rfl), (Nat.le_of_ble_eq_true rfl)⟩ dL_shortCircuit_16
    · refine E_ite hf (fun cq1 hf => ?_) (fun nq1 hf => ?_)
      · refine E_catch (pc := 5) (name := "java/lang/IllegalArgumentException") (i := 4) O hT [(0, 10, 13, 21)] (0, 10, 17, 13) [] [some (.ref x0), some (.int x1), some (.int x2), some (.ref x3), none] rfl (fun z hz => by rw [List.mem_singleton.mp hz]; exact ⟨by decide, "java/lang/IndexOutOfBoundsException", (aw3 20 (by decide +kernel) rfl), by rw [cq1]; decide⟩) (by decide) (by decide) (aw2 142 (by decide +kernel) rfl) (by rw [cq1]; rfl) (List.mem_filter.mpr ⟨List.mem_append_right _ (List.mem_append_left _ (List.mem_of_getElem? (i := 155) (by decide +kernel))), rfl⟩) (by decide) rfl rfl (Or.inl ⟨dL_shortCircuit_17, rfl⟩) ?_
        refine E_iconst (pc := 19) O (2 : Int32) dL_shortCircuit_19 (by decide) ?_
        exact E_iret (pc := 20) O Z hf ⟨(Nat.le_of_ble_eq_true rfl), (Nat.le_of_ble_eq_true rfl)⟩ dL_shortCircuit_20
      · cases hf
set_option maxHeartbeats 4000000 in
set_option maxRecDepth 100000 in
theorem t_L_stick {g : Gx} {fr : Bool} {h : MH} {x0 x1 x2 x3} {out : (Int32 × MH)} (hf : f_L_stick h x0 x1 x2 x3 = some out) : MH_ g yL_stick cL_stick 5 (some .int) [(0, 10, 13, 21), (0, 10, 17, 13)] 7 145 fr [.ref x0, .int x1, .int x2, .ref x3] h (some (.int out.1)) out.2 := by
  unfold f_L_stick at hf
  refine MH_of (L := [some (.ref x0), some (.int x1), some (.int x2), some (.ref x3), none]) (by decide) (Nat.le_of_ble_eq_true rfl) rfl (fun K hK O Z hT => ?_)
  refine E_aload_n (pc := 0) O 3 dL_stick_0 rfl rfl ?_
  refine E_iconst (pc := 1) O (0 : Int32) dL_stick_1 (by decide) ?_
  refine E_aload_n (pc := 2) O 0 dL_stick_2 rfl rfl ?_
  refine E_iload_n (pc := 3) O 1 dL_stick_3 rfl rfl ?_
  refine E_iload_n (pc := 4) O 2 dL_stick_4 rfl rfl ?_
  refine E_callVX (pc := 5) (S := [.int (0 : Int32), .ref x3]) O [.int x1, .int x2] CV_RailSequenceLaw_43 rfl (fun r e => t_X3_stick e) dL_stick_5 hf rfl ⟨(Nat.le_of_ble_eq_true rfl), (Nat.le_of_ble_eq_true rfl)⟩ ⟨(Nat.le_of_ble_eq_true rfl), (Nat.le_of_ble_eq_true rfl)⟩ (Nat.le_of_ble_eq_true rfl) (fun q hf => ?_) (fun q hf => ?_)
  · refine E_i2l (pc := 8) O dL_stick_8 ?_
    refine E_lastore (pc := 9) O dL_stick_9 hf (fun h2 hf => ?_)
    refine E_goto (pc := 10) O 21 dL_stick_10 (by decide) ?_
    refine E_iconst (pc := 21) O (0 : Int32) dL_stick_21 (by decide) ?_
    exact E_iret (pc := 22) O Z hf ⟨(Nat.le_of_ble_eq_true rfl), (Nat.le_of_ble_eq_true rfl)⟩ dL_stick_22
  · refine E_ite hf (fun cq0 hf => ?_) (fun nq0 hf => ?_)
    · refine E_catch (pc := 5) (name := "java/lang/IndexOutOfBoundsException") (i := 4) O hT [] (0, 10, 13, 21) [(0, 10, 17, 13)] [some (.ref x0), some (.int x1), some (.int x2), some (.ref x3), none] rfl (fun z hz => nomatch hz) (by decide) (by decide) (aw3 20 (by decide +kernel) rfl) (by rw [cq0]; rfl) (List.mem_filter.mpr ⟨List.mem_append_right _ (List.mem_append_right _ (List.mem_append_left _ (List.mem_of_getElem? (i := 31) (by decide +kernel)))), rfl⟩) (by decide) rfl rfl (Or.inl ⟨dL_stick_13, rfl⟩) ?_
      refine E_iconst (pc := 15) O (1 : Int32) dL_stick_15 (by decide) ?_
      exact E_iret (pc := 16) O Z hf ⟨(Nat.le_of_ble_eq_true rfl), (Nat.le_of_ble_eq_true rfl)⟩ dL_stick_16
    · refine E_ite hf (fun cq1 hf => ?_) (fun nq1 hf => ?_)
      · refine E_catch (pc := 5) (name := "java/lang/IllegalArgumentException") (i := 4) O hT [(0, 10, 13, 21)] (0, 10, 17, 13) [] [some (.ref x0), some (.int x1), some (.int x2), some (.ref x3), none] rfl (fun z hz => by rw [List.mem_singleton.mp hz]; exact ⟨by decide, "java/lang/IndexOutOfBoundsException", (aw3 20 (by decide +kernel) rfl), by rw [cq1]; decide⟩) (by decide) (by decide) (aw2 142 (by decide +kernel) rfl) (by rw [cq1]; rfl) (List.mem_filter.mpr ⟨List.mem_append_right _ (List.mem_append_left _ (List.mem_of_getElem? (i := 155) (by decide +kernel))), rfl⟩) (by decide) rfl rfl (Or.inl ⟨dL_stick_17, rfl⟩) ?_
        refine E_iconst (pc := 19) O (2 : Int32) dL_stick_19 (by decide) ?_
        exact E_iret (pc := 20) O Z hf ⟨(Nat.le_of_ble_eq_true rfl), (Nat.le_of_ble_eq_true rfl)⟩ dL_stick_20
      · cases hf
set_option maxHeartbeats 4000000 in
set_option maxRecDepth 100000 in
theorem t_L_tick {g : Gx} {fr : Bool} {h : MH} {x0 x1 x2} {out : (Int32 × MH)} (hf : f_L_tick h x0 x1 x2 = some out) : MH_ g yL_tick cL_tick 4 (some .int) [(0, 9, 12, 13), (0, 9, 15, 15)] 7 152 fr [.ref x0, .int x1, .ref x2] h (some (.int out.1)) out.2 := by
  unfold f_L_tick at hf
  refine MH_of (L := [some (.ref x0), some (.int x1), some (.ref x2), none]) (by decide) (Nat.le_of_ble_eq_true rfl) rfl (fun K hK O Z hT => ?_)
  refine E_aload_n (pc := 0) O 2 dL_tick_0 rfl rfl ?_
  refine E_iconst (pc := 1) O (0 : Int32) dL_tick_1 (by decide) ?_
  refine E_aload_n (pc := 2) O 0 dL_tick_2 rfl rfl ?_
  refine E_iload_n (pc := 3) O 1 dL_tick_3 rfl rfl ?_
  refine E_callVX (pc := 4) (S := [.int (0 : Int32), .ref x2]) O [.int x1] CV_RailSequenceLaw_46 rfl (fun r e => t_X3_tick e) dL_tick_4 hf rfl ⟨(Nat.le_of_ble_eq_true rfl), (Nat.le_of_ble_eq_true rfl)⟩ ⟨(Nat.le_of_ble_eq_true rfl), (Nat.le_of_ble_eq_true rfl)⟩ (Nat.le_of_ble_eq_true rfl) (fun q hf => ?_) (fun q hf => ?_)
  · refine E_i2l (pc := 7) O dL_tick_7 ?_
    refine E_lastore (pc := 8) O dL_tick_8 hf (fun h2 hf => ?_)
    refine E_goto (pc := 9) O 18 dL_tick_9 (by decide) ?_
    refine E_iconst (pc := 18) O (0 : Int32) dL_tick_18 (by decide) ?_
    exact E_iret (pc := 19) O Z hf ⟨(Nat.le_of_ble_eq_true rfl), (Nat.le_of_ble_eq_true rfl)⟩ dL_tick_19
  · refine E_ite hf (fun cq0 hf => ?_) (fun nq0 hf => ?_)
    · refine E_catch (pc := 4) (name := "java/lang/IllegalArgumentException") (i := 3) O hT [] (0, 9, 12, 13) [(0, 9, 15, 15)] [some (.ref x0), some (.int x1), some (.ref x2), none] rfl (fun z hz => nomatch hz) (by decide) (by decide) (aw2 142 (by decide +kernel) rfl) (by rw [cq0]; rfl) (List.mem_filter.mpr ⟨List.mem_append_right _ (List.mem_append_left _ (List.mem_of_getElem? (i := 155) (by decide +kernel))), rfl⟩) (by decide) rfl rfl (Or.inr ⟨⟨_, rfl, dL_tick_12⟩, rfl⟩) ?_
      refine E_iconst (pc := 13) O (1 : Int32) dL_tick_13 (by decide) ?_
      exact E_iret (pc := 14) O Z hf ⟨(Nat.le_of_ble_eq_true rfl), (Nat.le_of_ble_eq_true rfl)⟩ dL_tick_14
    · refine E_ite hf (fun cq1 hf => ?_) (fun nq1 hf => ?_)
      · refine E_catch (pc := 4) (name := "java/lang/IllegalStateException") (i := 3) O hT [(0, 9, 12, 13)] (0, 9, 15, 15) [] [some (.ref x0), some (.int x1), some (.ref x2), none] rfl (fun z hz => by rw [List.mem_singleton.mp hz]; exact ⟨by decide, "java/lang/IllegalArgumentException", (aw2 142 (by decide +kernel) rfl), by rw [cq1]; decide⟩) (by decide) (by decide) (aw2 143 (by decide +kernel) rfl) (by rw [cq1]; rfl) (List.mem_filter.mpr ⟨List.mem_append_right _ (List.mem_append_left _ (List.mem_of_getElem? (i := 231) (by decide +kernel))), rfl⟩) (by decide) rfl rfl (Or.inr ⟨⟨_, rfl, dL_tick_15⟩, rfl⟩) ?_
        refine E_iconst (pc := 16) O (2 : Int32) dL_tick_16 (by decide) ?_
        exact E_iret (pc := 17) O Z hf ⟨(Nat.le_of_ble_eq_true rfl), (Nat.le_of_ble_eq_true rfl)⟩ dL_tick_17
      · cases hf
set_option maxHeartbeats 4000000 in
set_option maxRecDepth 100000 in
theorem t_L_append {g : Gx} {fr : Bool} {h : MH} {x0 x1 x2} {out : (Int32 × MH)} (hf : f_L_append h x0 x1 x2 = some out) : MH_ g yL_append cL_append 4 (some .int) [(0, 9, 12, 13), (0, 9, 15, 15)] 7 103 fr [.ref x0, .int x1, .ref x2] h (some (.int out.1)) out.2 := by
  unfold f_L_append at hf
  refine MH_of (L := [some (.ref x0), some (.int x1), some (.ref x2), none]) (by decide) (Nat.le_of_ble_eq_true rfl) rfl (fun K hK O Z hT => ?_)
  refine E_aload_n (pc := 0) O 2 dL_append_0 rfl rfl ?_
  refine E_iconst (pc := 1) O (0 : Int32) dL_append_1 (by decide) ?_
  refine E_aload_n (pc := 2) O 0 dL_append_2 rfl rfl ?_
  refine E_iload_n (pc := 3) O 1 dL_append_3 rfl rfl ?_
  refine E_callVX (pc := 4) (S := [.int (0 : Int32), .ref x2]) O [.int x1] CV_RailSequenceLaw_49 rfl (fun r e => t_X3_append e) dL_append_4 hf rfl ⟨(Nat.le_of_ble_eq_true rfl), (Nat.le_of_ble_eq_true rfl)⟩ ⟨(Nat.le_of_ble_eq_true rfl), (Nat.le_of_ble_eq_true rfl)⟩ (Nat.le_of_ble_eq_true rfl) (fun q hf => ?_) (fun q hf => ?_)
  · refine E_i2l (pc := 7) O dL_append_7 ?_
    refine E_lastore (pc := 8) O dL_append_8 hf (fun h2 hf => ?_)
    refine E_goto (pc := 9) O 18 dL_append_9 (by decide) ?_
    refine E_iconst (pc := 18) O (0 : Int32) dL_append_18 (by decide) ?_
    exact E_iret (pc := 19) O Z hf ⟨(Nat.le_of_ble_eq_true rfl), (Nat.le_of_ble_eq_true rfl)⟩ dL_append_19
  · refine E_ite hf (fun cq0 hf => ?_) (fun nq0 hf => ?_)
    · refine E_catch (pc := 4) (name := "java/lang/IllegalArgumentException") (i := 3) O hT [] (0, 9, 12, 13) [(0, 9, 15, 15)] [some (.ref x0), some (.int x1), some (.ref x2), none] rfl (fun z hz => nomatch hz) (by decide) (by decide) (aw2 142 (by decide +kernel) rfl) (by rw [cq0]; rfl) (List.mem_filter.mpr ⟨List.mem_append_right _ (List.mem_append_left _ (List.mem_of_getElem? (i := 155) (by decide +kernel))), rfl⟩) (by decide) rfl rfl (Or.inr ⟨⟨_, rfl, dL_append_12⟩, rfl⟩) ?_
      refine E_iconst (pc := 13) O (1 : Int32) dL_append_13 (by decide) ?_
      exact E_iret (pc := 14) O Z hf ⟨(Nat.le_of_ble_eq_true rfl), (Nat.le_of_ble_eq_true rfl)⟩ dL_append_14
    · refine E_ite hf (fun cq1 hf => ?_) (fun nq1 hf => ?_)
      · refine E_catch (pc := 4) (name := "java/lang/IllegalStateException") (i := 3) O hT [(0, 9, 12, 13)] (0, 9, 15, 15) [] [some (.ref x0), some (.int x1), some (.ref x2), none] rfl (fun z hz => by rw [List.mem_singleton.mp hz]; exact ⟨by decide, "java/lang/IllegalArgumentException", (aw2 142 (by decide +kernel) rfl), by rw [cq1]; decide⟩) (by decide) (by decide) (aw2 143 (by decide +kernel) rfl) (by rw [cq1]; rfl) (List.mem_filter.mpr ⟨List.mem_append_right _ (List.mem_append_left _ (List.mem_of_getElem? (i := 231) (by decide +kernel))), rfl⟩) (by decide) rfl rfl (Or.inr ⟨⟨_, rfl, dL_append_15⟩, rfl⟩) ?_
        refine E_iconst (pc := 16) O (2 : Int32) dL_append_16 (by decide) ?_
        exact E_iret (pc := 17) O Z hf ⟨(Nat.le_of_ble_eq_true rfl), (Nat.le_of_ble_eq_true rfl)⟩ dL_append_17
      · cases hf
set_option maxHeartbeats 4000000 in
set_option maxRecDepth 100000 in
theorem t_L_load {g : Gx} {fr : Bool} {h : MH} {x0 x1} {out : (Int32 × MH)} (hf : f_L_load h x0 x1 = some out) : MH_ g yL_load cL_load 3 (some .int) [(0, 8, 11, 13), (0, 8, 14, 15)] 7 143 fr [.ref x0, .ref x1] h (some (.int out.1)) out.2 := by
  unfold f_L_load at hf
  refine MH_of (L := [some (.ref x0), some (.ref x1), none]) (by decide) (Nat.le_of_ble_eq_true rfl) rfl (fun K hK O Z hT => ?_)
  refine E_aload_n (pc := 0) O 1 dL_load_0 rfl rfl ?_
  refine E_iconst (pc := 1) O (0 : Int32) dL_load_1 (by decide) ?_
  refine E_aload_n (pc := 2) O 0 dL_load_2 rfl rfl ?_
  refine E_callVX (pc := 3) (S := [.int (0 : Int32), .ref x1]) O [] CV_RailSequenceLaw_52 rfl (fun r e => t_X3_load e) dL_load_3 hf rfl ⟨(Nat.le_of_ble_eq_true rfl), (Nat.le_of_ble_eq_true rfl)⟩ ⟨(Nat.le_of_ble_eq_true rfl), (Nat.le_of_ble_eq_true rfl)⟩ (Nat.le_of_ble_eq_true rfl) (fun q hf => ?_) (fun q hf => ?_)
  · refine E_i2l (pc := 6) O dL_load_6 ?_
    refine E_lastore (pc := 7) O dL_load_7 hf (fun h2 hf => ?_)
    refine E_goto (pc := 8) O 17 dL_load_8 (by decide) ?_
    refine E_iconst (pc := 17) O (0 : Int32) dL_load_17 (by decide) ?_
    exact E_iret (pc := 18) O Z hf ⟨(Nat.le_of_ble_eq_true rfl), (Nat.le_of_ble_eq_true rfl)⟩ dL_load_18
  · refine E_ite hf (fun cq0 hf => ?_) (fun nq0 hf => ?_)
    · refine E_catch (pc := 3) (name := "java/lang/IllegalArgumentException") (i := 2) O hT [] (0, 8, 11, 13) [(0, 8, 14, 15)] [some (.ref x0), some (.ref x1), none] rfl (fun z hz => nomatch hz) (by decide) (by decide) (aw2 142 (by decide +kernel) rfl) (by rw [cq0]; rfl) (List.mem_filter.mpr ⟨List.mem_append_right _ (List.mem_append_left _ (List.mem_of_getElem? (i := 155) (by decide +kernel))), rfl⟩) (by decide) rfl rfl (Or.inr ⟨⟨_, rfl, dL_load_11⟩, rfl⟩) ?_
      refine E_iconst (pc := 12) O (1 : Int32) dL_load_12 (by decide) ?_
      exact E_iret (pc := 13) O Z hf ⟨(Nat.le_of_ble_eq_true rfl), (Nat.le_of_ble_eq_true rfl)⟩ dL_load_13
    · refine E_ite hf (fun cq1 hf => ?_) (fun nq1 hf => ?_)
      · refine E_catch (pc := 3) (name := "java/lang/IllegalStateException") (i := 2) O hT [(0, 8, 11, 13)] (0, 8, 14, 15) [] [some (.ref x0), some (.ref x1), none] rfl (fun z hz => by rw [List.mem_singleton.mp hz]; exact ⟨by decide, "java/lang/IllegalArgumentException", (aw2 142 (by decide +kernel) rfl), by rw [cq1]; decide⟩) (by decide) (by decide) (aw2 143 (by decide +kernel) rfl) (by rw [cq1]; rfl) (List.mem_filter.mpr ⟨List.mem_append_right _ (List.mem_append_left _ (List.mem_of_getElem? (i := 231) (by decide +kernel))), rfl⟩) (by decide) rfl rfl (Or.inr ⟨⟨_, rfl, dL_load_14⟩, rfl⟩) ?_
        refine E_iconst (pc := 15) O (2 : Int32) dL_load_15 (by decide) ?_
        exact E_iret (pc := 16) O Z hf ⟨(Nat.le_of_ble_eq_true rfl), (Nat.le_of_ble_eq_true rfl)⟩ dL_load_16
      · cases hf
set_option maxHeartbeats 4000000 in
set_option maxRecDepth 100000 in
theorem t_L_undo {g : Gx} {fr : Bool} {h : MH} {x0 x1} {out : (Int32 × MH)} (hf : f_L_undo h x0 x1 = some out) : MH_ g yL_undo cL_undo 3 (some .int) [(0, 8, 11, 15)] 7 122 fr [.ref x0, .ref x1] h (some (.int out.1)) out.2 := by
  unfold f_L_undo at hf
  refine MH_of (L := [some (.ref x0), some (.ref x1), none]) (by decide) (Nat.le_of_ble_eq_true rfl) rfl (fun K hK O Z hT => ?_)
  refine E_aload_n (pc := 0) O 1 dL_undo_0 rfl rfl ?_
  refine E_iconst (pc := 1) O (0 : Int32) dL_undo_1 (by decide) ?_
  refine E_aload_n (pc := 2) O 0 dL_undo_2 rfl rfl ?_
  refine E_callVX (pc := 3) (S := [.int (0 : Int32), .ref x1]) O [] CV_RailSequenceLaw_56 rfl (fun r e => t_X3_undo e) dL_undo_3 hf rfl ⟨(Nat.le_of_ble_eq_true rfl), (Nat.le_of_ble_eq_true rfl)⟩ ⟨(Nat.le_of_ble_eq_true rfl), (Nat.le_of_ble_eq_true rfl)⟩ (Nat.le_of_ble_eq_true rfl) (fun q hf => ?_) (fun q hf => ?_)
  · refine E_i2l (pc := 6) O dL_undo_6 ?_
    refine E_lastore (pc := 7) O dL_undo_7 hf (fun h2 hf => ?_)
    refine E_goto (pc := 8) O 14 dL_undo_8 (by decide) ?_
    refine E_iconst (pc := 14) O (0 : Int32) dL_undo_14 (by decide) ?_
    exact E_iret (pc := 15) O Z hf ⟨(Nat.le_of_ble_eq_true rfl), (Nat.le_of_ble_eq_true rfl)⟩ dL_undo_15
  · refine E_ite hf (fun cq0 hf => ?_) (fun nq0 hf => ?_)
    · refine E_catch (pc := 3) (name := "java/lang/IllegalStateException") (i := 2) O hT [] (0, 8, 11, 15) [] [some (.ref x0), some (.ref x1), none] rfl (fun z hz => nomatch hz) (by decide) (by decide) (aw2 143 (by decide +kernel) rfl) (by rw [cq0]; rfl) (List.mem_filter.mpr ⟨List.mem_append_right _ (List.mem_append_left _ (List.mem_of_getElem? (i := 231) (by decide +kernel))), rfl⟩) (by decide) rfl rfl (Or.inr ⟨⟨_, rfl, dL_undo_11⟩, rfl⟩) ?_
      refine E_iconst (pc := 12) O (1 : Int32) dL_undo_12 (by decide) ?_
      exact E_iret (pc := 13) O Z hf ⟨(Nat.le_of_ble_eq_true rfl), (Nat.le_of_ble_eq_true rfl)⟩ dL_undo_13
    · cases hf
set_option maxHeartbeats 4000000 in
set_option maxRecDepth 100000 in
theorem t_L_rail {g : Gx} {fr : Bool} {h : MH} {x0 x1 x2 x3} {out : (Int32 × MH)} (hf : f_L_rail h x0 x1 x2 x3 = some out) : MH_ g yL_rail cL_rail 5 (some .int) [(0, 10, 13, 21), (0, 10, 17, 13)] 7 104 fr [.ref x0, .int x1, .int x2, .ref x3] h (some (.int out.1)) out.2 := by
  unfold f_L_rail at hf
  refine MH_of (L := [some (.ref x0), some (.int x1), some (.int x2), some (.ref x3), none]) (by decide) (Nat.le_of_ble_eq_true rfl) rfl (fun K hK O Z hT => ?_)
  refine E_aload_n (pc := 0) O 3 dL_rail_0 rfl rfl ?_
  refine E_iconst (pc := 1) O (0 : Int32) dL_rail_1 (by decide) ?_
  refine E_aload_n (pc := 2) O 0 dL_rail_2 rfl rfl ?_
  refine E_iload_n (pc := 3) O 1 dL_rail_3 rfl rfl ?_
  refine E_iload_n (pc := 4) O 2 dL_rail_4 rfl rfl ?_
  refine E_callVX (pc := 5) (S := [.int (0 : Int32), .ref x3]) O [.int x1, .int x2] CV_RailSequenceLaw_59 rfl (fun r e => t_X3_rail e) dL_rail_5 hf rfl ⟨(Nat.le_of_ble_eq_true rfl), (Nat.le_of_ble_eq_true rfl)⟩ ⟨(Nat.le_of_ble_eq_true rfl), (Nat.le_of_ble_eq_true rfl)⟩ (Nat.le_of_ble_eq_true rfl) (fun q hf => ?_) (fun q hf => ?_)
  · refine E_i2l (pc := 8) O dL_rail_8 ?_
    refine E_lastore (pc := 9) O dL_rail_9 hf (fun h2 hf => ?_)
    refine E_goto (pc := 10) O 21 dL_rail_10 (by decide) ?_
    refine E_iconst (pc := 21) O (0 : Int32) dL_rail_21 (by decide) ?_
    exact E_iret (pc := 22) O Z hf ⟨(Nat.le_of_ble_eq_true rfl), (Nat.le_of_ble_eq_true rfl)⟩ dL_rail_22
  · refine E_ite hf (fun cq0 hf => ?_) (fun nq0 hf => ?_)
    · refine E_catch (pc := 5) (name := "java/lang/IndexOutOfBoundsException") (i := 4) O hT [] (0, 10, 13, 21) [(0, 10, 17, 13)] [some (.ref x0), some (.int x1), some (.int x2), some (.ref x3), none] rfl (fun z hz => nomatch hz) (by decide) (by decide) (aw3 20 (by decide +kernel) rfl) (by rw [cq0]; rfl) (List.mem_filter.mpr ⟨List.mem_append_right _ (List.mem_append_right _ (List.mem_append_left _ (List.mem_of_getElem? (i := 31) (by decide +kernel)))), rfl⟩) (by decide) rfl rfl (Or.inl ⟨dL_rail_13, rfl⟩) ?_
      refine E_iconst (pc := 15) O (1 : Int32) dL_rail_15 (by decide) ?_
      exact E_iret (pc := 16) O Z hf ⟨(Nat.le_of_ble_eq_true rfl), (Nat.le_of_ble_eq_true rfl)⟩ dL_rail_16
    · refine E_ite hf (fun cq1 hf => ?_) (fun nq1 hf => ?_)
      · refine E_catch (pc := 5) (name := "java/lang/IllegalArgumentException") (i := 4) O hT [(0, 10, 13, 21)] (0, 10, 17, 13) [] [some (.ref x0), some (.int x1), some (.int x2), some (.ref x3), none] rfl (fun z hz => by rw [List.mem_singleton.mp hz]; exact ⟨by decide, "java/lang/IndexOutOfBoundsException", (aw3 20 (by decide +kernel) rfl), by rw [cq1]; decide⟩) (by decide) (by decide) (aw2 142 (by decide +kernel) rfl) (by rw [cq1]; rfl) (List.mem_filter.mpr ⟨List.mem_append_right _ (List.mem_append_left _ (List.mem_of_getElem? (i := 155) (by decide +kernel))), rfl⟩) (by decide) rfl rfl (Or.inl ⟨dL_rail_17, rfl⟩) ?_
        refine E_iconst (pc := 19) O (2 : Int32) dL_rail_19 (by decide) ?_
        exact E_iret (pc := 20) O Z hf ⟨(Nat.le_of_ble_eq_true rfl), (Nat.le_of_ble_eq_true rfl)⟩ dL_rail_20
      · cases hf
set_option maxHeartbeats 4000000 in
set_option maxRecDepth 100000 in
theorem t_L_account {g : Gx} {fr : Bool} {h : MH} {x0 x1 x2 x3} {out : (Int32 × MH)} (hf : f_L_account h x0 x1 x2 x3 = some out) : MH_ g yL_account cL_account 5 (some .int) [(0, 10, 13, 21), (0, 10, 17, 13)] 7 104 fr [.ref x0, .int x1, .int x2, .ref x3] h (some (.int out.1)) out.2 := by
  unfold f_L_account at hf
  refine MH_of (L := [some (.ref x0), some (.int x1), some (.int x2), some (.ref x3), none]) (by decide) (Nat.le_of_ble_eq_true rfl) rfl (fun K hK O Z hT => ?_)
  refine E_aload_n (pc := 0) O 3 dL_account_0 rfl rfl ?_
  refine E_iconst (pc := 1) O (0 : Int32) dL_account_1 (by decide) ?_
  refine E_aload_n (pc := 2) O 0 dL_account_2 rfl rfl ?_
  refine E_iload_n (pc := 3) O 1 dL_account_3 rfl rfl ?_
  refine E_iload_n (pc := 4) O 2 dL_account_4 rfl rfl ?_
  refine E_callVX (pc := 5) (S := [.int (0 : Int32), .ref x3]) O [.int x1, .int x2] CV_RailSequenceLaw_62 rfl (fun r e => t_X3_account e) dL_account_5 hf rfl ⟨(Nat.le_of_ble_eq_true rfl), (Nat.le_of_ble_eq_true rfl)⟩ ⟨(Nat.le_of_ble_eq_true rfl), (Nat.le_of_ble_eq_true rfl)⟩ (Nat.le_of_ble_eq_true rfl) (fun q hf => ?_) (fun q hf => ?_)
  · refine E_i2l (pc := 8) O dL_account_8 ?_
    refine E_lastore (pc := 9) O dL_account_9 hf (fun h2 hf => ?_)
    refine E_goto (pc := 10) O 21 dL_account_10 (by decide) ?_
    refine E_iconst (pc := 21) O (0 : Int32) dL_account_21 (by decide) ?_
    exact E_iret (pc := 22) O Z hf ⟨(Nat.le_of_ble_eq_true rfl), (Nat.le_of_ble_eq_true rfl)⟩ dL_account_22
  · refine E_ite hf (fun cq0 hf => ?_) (fun nq0 hf => ?_)
    · refine E_catch (pc := 5) (name := "java/lang/IndexOutOfBoundsException") (i := 4) O hT [] (0, 10, 13, 21) [(0, 10, 17, 13)] [some (.ref x0), some (.int x1), some (.int x2), some (.ref x3), none] rfl (fun z hz => nomatch hz) (by decide) (by decide) (aw3 20 (by decide +kernel) rfl) (by rw [cq0]; rfl) (List.mem_filter.mpr ⟨List.mem_append_right _ (List.mem_append_right _ (List.mem_append_left _ (List.mem_of_getElem? (i := 31) (by decide +kernel)))), rfl⟩) (by decide) rfl rfl (Or.inl ⟨dL_account_13, rfl⟩) ?_
      refine E_iconst (pc := 15) O (1 : Int32) dL_account_15 (by decide) ?_
      exact E_iret (pc := 16) O Z hf ⟨(Nat.le_of_ble_eq_true rfl), (Nat.le_of_ble_eq_true rfl)⟩ dL_account_16
    · refine E_ite hf (fun cq1 hf => ?_) (fun nq1 hf => ?_)
      · refine E_catch (pc := 5) (name := "java/lang/IllegalArgumentException") (i := 4) O hT [(0, 10, 13, 21)] (0, 10, 17, 13) [] [some (.ref x0), some (.int x1), some (.int x2), some (.ref x3), none] rfl (fun z hz => by rw [List.mem_singleton.mp hz]; exact ⟨by decide, "java/lang/IndexOutOfBoundsException", (aw3 20 (by decide +kernel) rfl), by rw [cq1]; decide⟩) (by decide) (by decide) (aw2 142 (by decide +kernel) rfl) (by rw [cq1]; rfl) (List.mem_filter.mpr ⟨List.mem_append_right _ (List.mem_append_left _ (List.mem_of_getElem? (i := 155) (by decide +kernel))), rfl⟩) (by decide) rfl rfl (Or.inl ⟨dL_account_17, rfl⟩) ?_
        refine E_iconst (pc := 19) O (2 : Int32) dL_account_19 (by decide) ?_
        exact E_iret (pc := 20) O Z hf ⟨(Nat.le_of_ble_eq_true rfl), (Nat.le_of_ble_eq_true rfl)⟩ dL_account_20
      · cases hf
set_option maxHeartbeats 4000000 in
set_option maxRecDepth 100000 in
theorem t_L_entry {g : Gx} {fr : Bool} {h : MH} {x0 x1 x2 x3} {out : (Int32 × MH)} (hf : f_L_entry h x0 x1 x2 x3 = some out) : MH_ g yL_entry cL_entry 5 (some .int) [(0, 10, 13, 13)] 7 104 fr [.ref x0, .int x1, .int x2, .ref x3] h (some (.int out.1)) out.2 := by
  unfold f_L_entry at hf
  refine MH_of (L := [some (.ref x0), some (.int x1), some (.int x2), some (.ref x3), none]) (by decide) (Nat.le_of_ble_eq_true rfl) rfl (fun K hK O Z hT => ?_)
  refine E_aload_n (pc := 0) O 3 dL_entry_0 rfl rfl ?_
  refine E_iconst (pc := 1) O (0 : Int32) dL_entry_1 (by decide) ?_
  refine E_aload_n (pc := 2) O 0 dL_entry_2 rfl rfl ?_
  refine E_iload_n (pc := 3) O 1 dL_entry_3 rfl rfl ?_
  refine E_iload_n (pc := 4) O 2 dL_entry_4 rfl rfl ?_
  refine E_callVX (pc := 5) (S := [.int (0 : Int32), .ref x3]) O [.int x1, .int x2] CV_RailSequenceLaw_65 rfl (fun r e => t_X3_entry e) dL_entry_5 hf rfl ⟨(Nat.le_of_ble_eq_true rfl), (Nat.le_of_ble_eq_true rfl)⟩ ⟨(Nat.le_of_ble_eq_true rfl), (Nat.le_of_ble_eq_true rfl)⟩ (Nat.le_of_ble_eq_true rfl) (fun q hf => ?_) (fun q hf => ?_)
  · refine E_i2l (pc := 8) O dL_entry_8 ?_
    refine E_lastore (pc := 9) O dL_entry_9 hf (fun h2 hf => ?_)
    refine E_goto (pc := 10) O 17 dL_entry_10 (by decide) ?_
    refine E_iconst (pc := 17) O (0 : Int32) dL_entry_17 (by decide) ?_
    exact E_iret (pc := 18) O Z hf ⟨(Nat.le_of_ble_eq_true rfl), (Nat.le_of_ble_eq_true rfl)⟩ dL_entry_18
  · refine E_ite hf (fun cq0 hf => ?_) (fun nq0 hf => ?_)
    · refine E_catch (pc := 5) (name := "java/lang/IllegalArgumentException") (i := 4) O hT [] (0, 10, 13, 13) [] [some (.ref x0), some (.int x1), some (.int x2), some (.ref x3), none] rfl (fun z hz => nomatch hz) (by decide) (by decide) (aw2 142 (by decide +kernel) rfl) (by rw [cq0]; rfl) (List.mem_filter.mpr ⟨List.mem_append_right _ (List.mem_append_left _ (List.mem_of_getElem? (i := 155) (by decide +kernel))), rfl⟩) (by decide) rfl rfl (Or.inl ⟨dL_entry_13, rfl⟩) ?_
      refine E_iconst (pc := 15) O (1 : Int32) dL_entry_15 (by decide) ?_
      exact E_iret (pc := 16) O Z hf ⟨(Nat.le_of_ble_eq_true rfl), (Nat.le_of_ble_eq_true rfl)⟩ dL_entry_16
    · cases hf
set_option maxHeartbeats 4000000 in
set_option maxRecDepth 100000 in
theorem t_L_forget {g : Gx} {fr : Bool} {h : MH} {x0 x1 x2} {out : (Int32 × MH)} (hf : f_L_forget h x0 x1 x2 = some out) : MH_ g yL_forget cL_forget 4 (some .int) [(0, 9, 12, 21)] 7 143 fr [.ref x0, .int x1, .ref x2] h (some (.int out.1)) out.2 := by
  unfold f_L_forget at hf
  refine MH_of (L := [some (.ref x0), some (.int x1), some (.ref x2), none]) (by decide) (Nat.le_of_ble_eq_true rfl) rfl (fun K hK O Z hT => ?_)
  refine E_aload_n (pc := 0) O 2 dL_forget_0 rfl rfl ?_
  refine E_iconst (pc := 1) O (0 : Int32) dL_forget_1 (by decide) ?_
  refine E_aload_n (pc := 2) O 0 dL_forget_2 rfl rfl ?_
  refine E_iload_n (pc := 3) O 1 dL_forget_3 rfl rfl ?_
  refine E_callVX (pc := 4) (S := [.int (0 : Int32), .ref x2]) O [.int x1] CV_RailSequenceLaw_68 rfl (fun r e => t_X3_forget e) dL_forget_4 hf rfl ⟨(Nat.le_of_ble_eq_true rfl), (Nat.le_of_ble_eq_true rfl)⟩ ⟨(Nat.le_of_ble_eq_true rfl), (Nat.le_of_ble_eq_true rfl)⟩ (Nat.le_of_ble_eq_true rfl) (fun q hf => ?_) (fun q hf => ?_)
  · refine E_i2l (pc := 7) O dL_forget_7 ?_
    refine E_lastore (pc := 8) O dL_forget_8 hf (fun h2 hf => ?_)
    refine E_goto (pc := 9) O 15 dL_forget_9 (by decide) ?_
    refine E_iconst (pc := 15) O (0 : Int32) dL_forget_15 (by decide) ?_
    exact E_iret (pc := 16) O Z hf ⟨(Nat.le_of_ble_eq_true rfl), (Nat.le_of_ble_eq_true rfl)⟩ dL_forget_16
  · refine E_ite hf (fun cq0 hf => ?_) (fun nq0 hf => ?_)
    · refine E_catch (pc := 4) (name := "java/lang/IndexOutOfBoundsException") (i := 3) O hT [] (0, 9, 12, 21) [] [some (.ref x0), some (.int x1), some (.ref x2), none] rfl (fun z hz => nomatch hz) (by decide) (by decide) (aw3 20 (by decide +kernel) rfl) (by rw [cq0]; rfl) (List.mem_filter.mpr ⟨List.mem_append_right _ (List.mem_append_right _ (List.mem_append_left _ (List.mem_of_getElem? (i := 31) (by decide +kernel)))), rfl⟩) (by decide) rfl rfl (Or.inr ⟨⟨_, rfl, dL_forget_12⟩, rfl⟩) ?_
      refine E_iconst (pc := 13) O (1 : Int32) dL_forget_13 (by decide) ?_
      exact E_iret (pc := 14) O Z hf ⟨(Nat.le_of_ble_eq_true rfl), (Nat.le_of_ble_eq_true rfl)⟩ dL_forget_14
    · cases hf
set_option maxHeartbeats 4000000 in
set_option maxRecDepth 100000 in
theorem t_L_count {g : Gx} {fr : Bool} {h : MH} {x0 x1 x2} {out : (Int32 × MH)} (hf : f_L_count h x0 x1 x2 = some out) : MH_ g yL_count cL_count 4 (some .int) [(0, 9, 12, 13)] 7 171 fr [.ref x0, .int x1, .ref x2] h (some (.int out.1)) out.2 := by
  unfold f_L_count at hf
  refine MH_of (L := [some (.ref x0), some (.int x1), some (.ref x2), none]) (by decide) (Nat.le_of_ble_eq_true rfl) rfl (fun K hK O Z hT => ?_)
  refine E_aload_n (pc := 0) O 2 dL_count_0 rfl rfl ?_
  refine E_iconst (pc := 1) O (0 : Int32) dL_count_1 (by decide) ?_
  refine E_aload_n (pc := 2) O 0 dL_count_2 rfl rfl ?_
  refine E_iload_n (pc := 3) O 1 dL_count_3 rfl rfl ?_
  refine E_callVX (pc := 4) (S := [.int (0 : Int32), .ref x2]) O [.int x1] CV_RailSequenceLaw_71 rfl (fun r e => t_X3_count e) dL_count_4 hf rfl ⟨(Nat.le_of_ble_eq_true rfl), (Nat.le_of_ble_eq_true rfl)⟩ ⟨(Nat.le_of_ble_eq_true rfl), (Nat.le_of_ble_eq_true rfl)⟩ (Nat.le_of_ble_eq_true rfl) (fun q hf => ?_) (fun q hf => ?_)
  · refine E_i2l (pc := 7) O dL_count_7 ?_
    refine E_lastore (pc := 8) O dL_count_8 hf (fun h2 hf => ?_)
    refine E_goto (pc := 9) O 15 dL_count_9 (by decide) ?_
    refine E_iconst (pc := 15) O (0 : Int32) dL_count_15 (by decide) ?_
    exact E_iret (pc := 16) O Z hf ⟨(Nat.le_of_ble_eq_true rfl), (Nat.le_of_ble_eq_true rfl)⟩ dL_count_16
  · refine E_ite hf (fun cq0 hf => ?_) (fun nq0 hf => ?_)
    · refine E_catch (pc := 4) (name := "java/lang/IllegalArgumentException") (i := 3) O hT [] (0, 9, 12, 13) [] [some (.ref x0), some (.int x1), some (.ref x2), none] rfl (fun z hz => nomatch hz) (by decide) (by decide) (aw2 142 (by decide +kernel) rfl) (by rw [cq0]; rfl) (List.mem_filter.mpr ⟨List.mem_append_right _ (List.mem_append_left _ (List.mem_of_getElem? (i := 155) (by decide +kernel))), rfl⟩) (by decide) rfl rfl (Or.inr ⟨⟨_, rfl, dL_count_12⟩, rfl⟩) ?_
      refine E_iconst (pc := 13) O (1 : Int32) dL_count_13 (by decide) ?_
      exact E_iret (pc := 14) O Z hf ⟨(Nat.le_of_ble_eq_true rfl), (Nat.le_of_ble_eq_true rfl)⟩ dL_count_14
    · cases hf
set_option maxHeartbeats 4000000 in
set_option maxRecDepth 100000 in
theorem t_L_ifShort {g : Gx} {fr : Bool} {h : MH} {x0 x1 x2 x3 x4} {out : (Int32 × MH)} (hf : f_L_ifShort h x0 x1 x2 x3 x4 = some out) : MH_ g yL_ifShort cL_ifShort 6 (some .int) [(0, 12, 15, 21), (0, 12, 19, 13)] 7 154 fr [.ref x0, .int x1, .int x2, .int x3, .ref x4] h (some (.int out.1)) out.2 := by
  unfold f_L_ifShort at hf
  refine MH_of (L := [some (.ref x0), some (.int x1), some (.int x2), some (.int x3), some (.ref x4), none]) (by decide) (Nat.le_of_ble_eq_true rfl) rfl (fun K hK O Z hT => ?_)
  refine E_aload (pc := 0) O dL_ifShort_0 rfl ?_
  refine E_iconst (pc := 2) O (0 : Int32) dL_ifShort_2 (by decide) ?_
  refine E_aload_n (pc := 3) O 0 dL_ifShort_3 rfl rfl ?_
  refine E_iload_n (pc := 4) O 1 dL_ifShort_4 rfl rfl ?_
  refine E_iload_n (pc := 5) O 2 dL_ifShort_5 rfl rfl ?_
  refine E_iload_n (pc := 6) O 3 dL_ifShort_6 rfl rfl ?_
  refine E_callVX (pc := 7) (S := [.int (0 : Int32), .ref x4]) O [.int x1, .int x2, .int x3] CV_RailSequenceLaw_74 rfl (fun r e => t_X3_ifShort e) dL_ifShort_7 hf rfl ⟨(Nat.le_of_ble_eq_true rfl), (Nat.le_of_ble_eq_true rfl)⟩ ⟨(Nat.le_of_ble_eq_true rfl), (Nat.le_of_ble_eq_true rfl)⟩ (Nat.le_of_ble_eq_true rfl) (fun q hf => ?_) (fun q hf => ?_)
  · refine E_i2l (pc := 10) O dL_ifShort_10 ?_
    refine E_lastore (pc := 11) O dL_ifShort_11 hf (fun h2 hf => ?_)
    refine E_goto (pc := 12) O 23 dL_ifShort_12 (by decide) ?_
    refine E_iconst (pc := 23) O (0 : Int32) dL_ifShort_23 (by decide) ?_
    exact E_iret (pc := 24) O Z hf ⟨(Nat.le_of_ble_eq_true rfl), (Nat.le_of_ble_eq_true rfl)⟩ dL_ifShort_24
  · refine E_ite hf (fun cq0 hf => ?_) (fun nq0 hf => ?_)
    · refine E_catch (pc := 7) (name := "java/lang/IndexOutOfBoundsException") (i := 5) O hT [] (0, 12, 15, 21) [(0, 12, 19, 13)] [some (.ref x0), some (.int x1), some (.int x2), some (.int x3), some (.ref x4), none] rfl (fun z hz => nomatch hz) (by decide) (by decide) (aw3 20 (by decide +kernel) rfl) (by rw [cq0]; rfl) (List.mem_filter.mpr ⟨List.mem_append_right _ (List.mem_append_right _ (List.mem_append_left _ (List.mem_of_getElem? (i := 31) (by decide +kernel)))), rfl⟩) (by decide) rfl rfl (Or.inl ⟨dL_ifShort_15, rfl⟩) ?_
      refine E_iconst (pc := 17) O (1 : Int32) dL_ifShort_17 (by decide) ?_
      exact E_iret (pc := 18) O Z hf ⟨(Nat.le_of_ble_eq_true rfl), (Nat.le_of_ble_eq_true rfl)⟩ dL_ifShort_18
    · refine E_ite hf (fun cq1 hf => ?_) (fun nq1 hf => ?_)
      · refine E_catch (pc := 7) (name := "java/lang/IllegalArgumentException") (i := 5) O hT [(0, 12, 15, 21)] (0, 12, 19, 13) [] [some (.ref x0), some (.int x1), some (.int x2), some (.int x3), some (.ref x4), none] rfl (fun z hz => by rw [List.mem_singleton.mp hz]; exact ⟨by decide, "java/lang/IndexOutOfBoundsException", (aw3 20 (by decide +kernel) rfl), by rw [cq1]; decide⟩) (by decide) (by decide) (aw2 142 (by decide +kernel) rfl) (by rw [cq1]; rfl) (List.mem_filter.mpr ⟨List.mem_append_right _ (List.mem_append_left _ (List.mem_of_getElem? (i := 155) (by decide +kernel))), rfl⟩) (by decide) rfl rfl (Or.inl ⟨dL_ifShort_19, rfl⟩) ?_
        refine E_iconst (pc := 21) O (2 : Int32) dL_ifShort_21 (by decide) ?_
        exact E_iret (pc := 22) O Z hf ⟨(Nat.le_of_ble_eq_true rfl), (Nat.le_of_ble_eq_true rfl)⟩ dL_ifShort_22
      · cases hf
set_option maxHeartbeats 4000000 in
set_option maxRecDepth 100000 in
theorem t_L_leastPatience {g : Gx} {fr : Bool} {h : MH} {x0 x1 x2} {out : (Int32 × MH)} (hf : f_L_leastPatience h x0 x1 x2 = some out) : MH_ g yL_leastPatience cL_leastPatience 4 (some .int) [(0, 9, 12, 21)] 7 103 fr [.ref x0, .int x1, .ref x2] h (some (.int out.1)) out.2 := by
  unfold f_L_leastPatience at hf
  refine MH_of (L := [some (.ref x0), some (.int x1), some (.ref x2), none]) (by decide) (Nat.le_of_ble_eq_true rfl) rfl (fun K hK O Z hT => ?_)
  refine E_aload_n (pc := 0) O 2 dL_leastPatience_0 rfl rfl ?_
  refine E_iconst (pc := 1) O (0 : Int32) dL_leastPatience_1 (by decide) ?_
  refine E_aload_n (pc := 2) O 0 dL_leastPatience_2 rfl rfl ?_
  refine E_iload_n (pc := 3) O 1 dL_leastPatience_3 rfl rfl ?_
  refine E_callVX (pc := 4) (S := [.int (0 : Int32), .ref x2]) O [.int x1] CV_RailSequenceLaw_77 rfl (fun r e => t_X3_leastPatience e) dL_leastPatience_4 hf rfl ⟨(Nat.le_of_ble_eq_true rfl), (Nat.le_of_ble_eq_true rfl)⟩ ⟨(Nat.le_of_ble_eq_true rfl), (Nat.le_of_ble_eq_true rfl)⟩ (Nat.le_of_ble_eq_true rfl) (fun q hf => ?_) (fun q hf => ?_)
  · refine E_i2l (pc := 7) O dL_leastPatience_7 ?_
    refine E_lastore (pc := 8) O dL_leastPatience_8 hf (fun h2 hf => ?_)
    refine E_goto (pc := 9) O 15 dL_leastPatience_9 (by decide) ?_
    refine E_iconst (pc := 15) O (0 : Int32) dL_leastPatience_15 (by decide) ?_
    exact E_iret (pc := 16) O Z hf ⟨(Nat.le_of_ble_eq_true rfl), (Nat.le_of_ble_eq_true rfl)⟩ dL_leastPatience_16
  · refine E_ite hf (fun cq0 hf => ?_) (fun nq0 hf => ?_)
    · refine E_catch (pc := 4) (name := "java/lang/IndexOutOfBoundsException") (i := 3) O hT [] (0, 9, 12, 21) [] [some (.ref x0), some (.int x1), some (.ref x2), none] rfl (fun z hz => nomatch hz) (by decide) (by decide) (aw3 20 (by decide +kernel) rfl) (by rw [cq0]; rfl) (List.mem_filter.mpr ⟨List.mem_append_right _ (List.mem_append_right _ (List.mem_append_left _ (List.mem_of_getElem? (i := 31) (by decide +kernel)))), rfl⟩) (by decide) rfl rfl (Or.inr ⟨⟨_, rfl, dL_leastPatience_12⟩, rfl⟩) ?_
      refine E_iconst (pc := 13) O (1 : Int32) dL_leastPatience_13 (by decide) ?_
      exact E_iret (pc := 14) O Z hf ⟨(Nat.le_of_ble_eq_true rfl), (Nat.le_of_ble_eq_true rfl)⟩ dL_leastPatience_14
    · cases hf
