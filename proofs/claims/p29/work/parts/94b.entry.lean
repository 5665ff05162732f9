/-! the law's entry -/
theorem b_sR {β : Type} {k j x : Nat} {y : Int32} {G : Nat → MC} {f : MH → Option β} (hy : y = nI j) (fn : Nat → Option Nat) (fs : List Value) (hk : 33 < k) (hG : G 33 = .inl (2, 6, .inr (.inr (.inr (.inr fn))))) (hj : j < 6) (hx : x < k) (hO : G x = .inr (1, fs)) : (sR (mkH k G) 33 y x).bind f = f (mkH k (uD G 33 (.inl (2, 6, .inr (.inr (.inr (.inr (va_up fn j (some x))))))))) := by
  subst hy
  have e : sR (mkH k G) 33 (nI j) x = some (mkH k (uD G 33 (.inl (2, 6, .inr (.inr (.inr (.inr (va_up fn j (some x))))))))) := by
    have ho : isO (mkH k G) 1 x = true := by
      unfold isO
      rw [mk_get _ hx, hO]
      rfl
    unfold sR aC
    rw [mk_get _ hk, hG]
    show (if nI j < 0 ∨ 6 ≤ (nI j).toNatClampNeg ∨ isO (mkH k G) 1 x = false then none else some ((mkH k G).set 33 (.inl (2, 6, .inr (.inr (.inr (.inr (va_up fn (nI j).toNatClampNeg (some x)))))))) ) = _
    rw [nI_clamp (by omega), ho, if_neg (by simp only [nI_pos (show j < 2 ^ 31 by omega), Bool.true_eq_false, or_false, false_or]; omega), mk_set]
  rw [e, obs]
theorem b_sI {β : Type} {k i n j : Nat} {y : Int32} {G : Nat → MC} {x : Int32} {f : MH → Option β} (hy : y = nI j) (fn : Nat → Int32) (hi : i < k) (hG : G i = .inl (0, n, .inl fn)) (hj : j < n) (hn : n < 2 ^ 31) : (sI (mkH k G) i y x).bind f = f (mkH k (uD G i (.inl (0, n, .inl (upd fn j x))))) := by
  subst hy
  have e : sI (mkH k G) i (nI j) x = some (mkH k (uD G i (.inl (0, n, .inl (upd fn j x))))) := by
    unfold sI aC
    rw [mk_get _ hi, hG]
    show (if nI j < 0 ∨ n ≤ (nI j).toNatClampNeg then none else some ((mkH k G).set i (.inl (0, n, .inl (upd fn (nI j).toNatClampNeg x))))) = _
    rw [nI_clamp (by omega), if_neg (by simp only [nI_pos (show j < 2 ^ 31 by omega), false_or]; omega), mk_set]
  rw [e, obs]
theorem up_ne {G : Nat → MC} {i j : Nat} {c : MC} (h : i ≠ j) : uD G j c i = G i := if_neg h
def T0 : TS := ((fun _ => 0, fun k => k + 2, fun _ => P0v), (fun _ => 0, fun _ => 0), (0, fun _ => .inl (0, 0, .inl (fun _ => 0))))
def X0 : LX := fun j => if j = 4 then upd (fun _ => 0) 1 100 else fun _ => 0
def lawB (sc : Nat × (Nat → Int32)) (h : MH) : Option Int32 :=
  (f_L_told h 0 133 134 135 136 137).bind fun p25 =>
  if p25.1 = 0 then
    (b_L_law_66 sc p25.2)
  else
    ((vcall p25.2 3 0 (f_X3_count p25.2 0 (8 : Int32))).bind fun p26 =>
    if p26.1 = 0 then
      (f_L_law_71 sc FU p26.2 0 133 134 135 136 137 (0 : Int32))
    else
      (b_L_law_66 sc p26.2))
theorem law_init (sc : Nat × (Nat → Int32)) : f_L_law sc [] = lawB sc (HT (uL T0 134 X0)) := by
  unfold f_L_law
  rw [show ([] : MH) = mkH 0 (fun _ => .inl (0, 0, .inl (fun _ => 0))) from rfl, b_nO (by decide)]
  rw [mk_len]
  unfold f_X3_init f_X2_init
  rw [init_pl (by decide), b_hP [.null, .null, .null, .int 0, .null, .int 0, .null] (by decide) rfl (by decide), mk_len]
  rw [init_pl (by decide), b_hP [.ref 1, .null, .null, .int 0, .null, .int 0, .null] (by decide) rfl (by decide), mk_len]
  rw [b_nA (by decide), b_hP [.ref 1, .ref 17, .null, .int 0, .null, .int 0, .null] (by decide) rfl (by decide), mk_len]
  rw [b_nA (by decide), b_hP [.ref 1, .ref 17, .ref 33, .int 0, .null, .int 0, .null] (by decide) rfl (by decide), mk_len]
  rw [b_nO (by decide), b_nA (by decide), mk_len, b_hP [.null, .int 0, .int 0, .int 0] (by decide) rfl (by decide), obs, b_hP [.ref 1, .ref 17, .ref 33, .int 0, .ref 34, .int 0, .null] (by decide) rfl (by decide)]
  rw [b_hR [.ref 1, .ref 17, .ref 33, .int 0, .ref 34, .int 0, .ref 35] (by decide) rfl rfl]
  rw [init_pl (by decide), mk_len, b_sR (y := (0 : Int32)) (j := 0) rfl (fun _ => none) [.int (P0v.1 0), .int (P0v.1 1), .int (P0v.1 2), .int (P0v.1 3), .ref 38, .ref 39, .ref 40, .ref 41, .ref 42, .ref 43, .ref 44, .ref 45, .ref 46, .ref 47, .ref 48, .ref 50, .ref 51, .ref 52] (by decide) rfl (by decide) (by decide) rfl]
  rw [b_hR [.ref 1, .ref 17, .ref 33, .int 0, .ref 34, .int 0, .ref 35] (by decide) rfl rfl]
  rw [init_pl (by decide), mk_len, b_sR (y := (1 : Int32)) (j := 1) rfl (va_up (fun _ => none) 0 (some 37)) [.int (P0v.1 0), .int (P0v.1 1), .int (P0v.1 2), .int (P0v.1 3), .ref 54, .ref 55, .ref 56, .ref 57, .ref 58, .ref 59, .ref 60, .ref 61, .ref 62, .ref 63, .ref 64, .ref 66, .ref 67, .ref 68] (by decide) rfl (by decide) (by decide) rfl]
  rw [b_hR [.ref 1, .ref 17, .ref 33, .int 0, .ref 34, .int 0, .ref 35] (by decide) rfl rfl]
  rw [init_pl (by decide), mk_len, b_sR (y := (2 : Int32)) (j := 2) rfl (va_up (va_up (fun _ => none) 0 (some 37)) 1 (some 53)) [.int (P0v.1 0), .int (P0v.1 1), .int (P0v.1 2), .int (P0v.1 3), .ref 70, .ref 71, .ref 72, .ref 73, .ref 74, .ref 75, .ref 76, .ref 77, .ref 78, .ref 79, .ref 80, .ref 82, .ref 83, .ref 84] (by decide) rfl (by decide) (by decide) rfl]
  rw [b_hR [.ref 1, .ref 17, .ref 33, .int 0, .ref 34, .int 0, .ref 35] (by decide) rfl rfl]
  rw [init_pl (by decide), mk_len, b_sR (y := (3 : Int32)) (j := 3) rfl (va_up (va_up (va_up (fun _ => none) 0 (some 37)) 1 (some 53)) 2 (some 69)) [.int (P0v.1 0), .int (P0v.1 1), .int (P0v.1 2), .int (P0v.1 3), .ref 86, .ref 87, .ref 88, .ref 89, .ref 90, .ref 91, .ref 92, .ref 93, .ref 94, .ref 95, .ref 96, .ref 98, .ref 99, .ref 100] (by decide) rfl (by decide) (by decide) rfl]
  rw [b_hR [.ref 1, .ref 17, .ref 33, .int 0, .ref 34, .int 0, .ref 35] (by decide) rfl rfl]
  rw [init_pl (by decide), mk_len, b_sR (y := (4 : Int32)) (j := 4) rfl (va_up (va_up (va_up (va_up (fun _ => none) 0 (some 37)) 1 (some 53)) 2 (some 69)) 3 (some 85)) [.int (P0v.1 0), .int (P0v.1 1), .int (P0v.1 2), .int (P0v.1 3), .ref 102, .ref 103, .ref 104, .ref 105, .ref 106, .ref 107, .ref 108, .ref 109, .ref 110, .ref 111, .ref 112, .ref 114, .ref 115, .ref 116] (by decide) rfl (by decide) (by decide) rfl]
  rw [b_hR [.ref 1, .ref 17, .ref 33, .int 0, .ref 34, .int 0, .ref 35] (by decide) rfl rfl]
  rw [init_pl (by decide), mk_len, b_sR (y := (5 : Int32)) (j := 5) rfl (va_up (va_up (va_up (va_up (va_up (fun _ => none) 0 (some 37)) 1 (some 53)) 2 (some 69)) 3 (some 85)) 4 (some 101)) [.int (P0v.1 0), .int (P0v.1 1), .int (P0v.1 2), .int (P0v.1 3), .ref 118, .ref 119, .ref 120, .ref 121, .ref 122, .ref 123, .ref 124, .ref 125, .ref 126, .ref 127, .ref 128, .ref 130, .ref 131, .ref 132] (by decide) rfl (by decide) (by decide) rfl]
  rw [obs, obs]
  rw [b_nA (by decide), mk_len, obs, b_nA (by decide), mk_len, obs, b_nA (by decide), mk_len, obs, b_nA (by decide), mk_len, obs, b_nA (by decide), mk_len, obs]
  rw [b_sI (y := (1 : Int32)) (j := 1) (n := 6) rfl (fun _ => 0) (by decide) rfl (by decide) (by decide)]
  refine congrArg (lawB sc) ?_
  refine mk_ext (k := 138) (k' := 138) (G' := (gT (uL T0 134 X0)).2) rfl (fun i hi => ?_)
  by_cases h0 : i = 0
  · subst h0
    rfl
  by_cases h33 : i = 33
  · subst h33
    show (Sum.inl (2, 6, Sum.inr (Sum.inr (Sum.inr (Sum.inr (va_up (va_up (va_up (va_up (va_up (va_up (fun _ => none) 0 (some 37)) 1 (some 53)) 2 (some 69)) 3 (some 85)) 4 (some 101)) 5 (some 117)))))) : MC) = Sum.inl (2, 6, Sum.inr (Sum.inr (Sum.inr (Sum.inr (fun k => if k < 6 then some (bs (k + 2)) else none)))))
    refine congrArg (fun f => (Sum.inl (2, 6, Sum.inr (Sum.inr (Sum.inr (Sum.inr f)))) : MC)) ?_
    funext k
    match k with
    | 0 => rfl
    | 1 => rfl
    | 2 => rfl
    | 3 => rfl
    | 4 => rfl
    | 5 => rfl
    | k + 6 =>
      unfold va_up
      rw [if_neg (by omega), if_neg (by omega), if_neg (by omega), if_neg (by omega), if_neg (by omega), if_neg (by omega), if_neg (by omega)]
  by_cases h34 : i = 34
  · subst h34
    rfl
  by_cases h35 : i = 35
  · subst h35
    rfl
  by_cases h36 : i = 36
  · subst h36
    rfl
  by_cases h133 : i = 133
  · subst h133
    rfl
  by_cases h134 : i = 134
  · subst h134
    rfl
  by_cases h135 : i = 135
  · subst h135
    rfl
  by_cases h136 : i = 136
  · subst h136
    rfl
  by_cases h137 : i = 137
  · subst h137
    rfl
  by_cases g0 : 1 ≤ i ∧ i < 17
  · obtain ⟨k, rfl⟩ : ∃ k, i = 1 + k := ⟨i - 1, by omega⟩
    have hk : k < 16 := by omega
    repeat (first | rw [up_ne (by omega)] | rw [pD_ne (by omega)])
    exact (pD_at (b := 1) hk).trans (gT_in (uL T0 134 X0) (j := 0) (by decide) hk).symm
  by_cases g1 : 17 ≤ i ∧ i < 33
  · obtain ⟨k, rfl⟩ : ∃ k, i = 17 + k := ⟨i - 17, by omega⟩
    have hk : k < 16 := by omega
    repeat (first | rw [up_ne (by omega)] | rw [pD_ne (by omega)])
    exact (pD_at (b := 17) hk).trans (gT_in (uL T0 134 X0) (j := 1) (by decide) hk).symm
  by_cases g2 : 37 ≤ i ∧ i < 53
  · obtain ⟨k, rfl⟩ : ∃ k, i = 37 + k := ⟨i - 37, by omega⟩
    have hk : k < 16 := by omega
    repeat (first | rw [up_ne (by omega)] | rw [pD_ne (by omega)])
    exact (pD_at (b := 37) hk).trans (gT_in (uL T0 134 X0) (j := 2) (by decide) hk).symm
  by_cases g3 : 53 ≤ i ∧ i < 69
  · obtain ⟨k, rfl⟩ : ∃ k, i = 53 + k := ⟨i - 53, by omega⟩
    have hk : k < 16 := by omega
    repeat (first | rw [up_ne (by omega)] | rw [pD_ne (by omega)])
    exact (pD_at (b := 53) hk).trans (gT_in (uL T0 134 X0) (j := 3) (by decide) hk).symm
  by_cases g4 : 69 ≤ i ∧ i < 85
  · obtain ⟨k, rfl⟩ : ∃ k, i = 69 + k := ⟨i - 69, by omega⟩
    have hk : k < 16 := by omega
    repeat (first | rw [up_ne (by omega)] | rw [pD_ne (by omega)])
    exact (pD_at (b := 69) hk).trans (gT_in (uL T0 134 X0) (j := 4) (by decide) hk).symm
  by_cases g5 : 85 ≤ i ∧ i < 101
  · obtain ⟨k, rfl⟩ : ∃ k, i = 85 + k := ⟨i - 85, by omega⟩
    have hk : k < 16 := by omega
    repeat (first | rw [up_ne (by omega)] | rw [pD_ne (by omega)])
    exact (pD_at (b := 85) hk).trans (gT_in (uL T0 134 X0) (j := 5) (by decide) hk).symm
  by_cases g6 : 101 ≤ i ∧ i < 117
  · obtain ⟨k, rfl⟩ : ∃ k, i = 101 + k := ⟨i - 101, by omega⟩
    have hk : k < 16 := by omega
    repeat (first | rw [up_ne (by omega)] | rw [pD_ne (by omega)])
    exact (pD_at (b := 101) hk).trans (gT_in (uL T0 134 X0) (j := 6) (by decide) hk).symm
  by_cases g7 : 117 ≤ i ∧ i < 133
  · obtain ⟨k, rfl⟩ : ∃ k, i = 117 + k := ⟨i - 117, by omega⟩
    have hk : k < 16 := by omega
    repeat (first | rw [up_ne (by omega)] | rw [pD_ne (by omega)])
    exact (pD_at (b := 117) hk).trans (gT_in (uL T0 134 X0) (j := 7) (by decide) hk).symm
  omega
