/-! walks: the machine does what the plain functions say: written by program -/
set_option maxHeartbeats 4000000 in
set_option maxRecDepth 100000 in
theorem t_X2_init {g : Gx} {h : MH} {x0} {out : MH} (hf : f_X2_init h x0 = some out) : MM g yX2_init cX2_init 1 none 1 60 1 3 true true [.ref x0] h none out := by
  unfold f_X2_init at hf
  refine MM_of (L := [some (.ref x0)]) (by decide) (Nat.le_of_ble_eq_true rfl) rfl (fun K hK O Z hn => ?_)
  refine E_aload_n (pc := 0) O 0 dX2_init_0 rfl rfl ?_
  refine E_objInit (pc := 1) O (aw1 114 (by decide +kernel) rfl) (aw1 19 (by decide +kernel) rfl) (aw1 20 (by decide +kernel) rfl) (Nat.le_of_ble_eq_true rfl) (Nat.le_of_ble_eq_true rfl) dX2_init_1 ?_
  refine E_aload_n (pc := 4) O 0 dX2_init_4 rfl rfl ?_
  refine E_iconst (pc := 5) O (3 : Int32) dX2_init_5 (by decide) ?_
  refine E_newaI (pc := 6) O (aw1 41 (by decide +kernel) rfl) dX2_init_6 (by decide) (by decide) (Nat.le_of_ble_eq_true rfl) hf ⟨(Nat.le_of_ble_eq_true rfl), (Nat.le_of_ble_eq_true rfl)⟩ (fun h1 hf => ?_)
  show EE K (true, 1, 3) _ _ _ _
  refine E_putF (pc := 8) O FF_RailSequence_TextReader_11 hn rfl rfl dX2_init_8 hf (fun h2 hf => ?_)
  exact E_vret (pc := 11) O Z hf ⟨(Nat.le_of_ble_eq_true rfl), (Nat.le_of_ble_eq_true rfl)⟩ dX2_init_11
